def pw_X5 (E : zE) (h0 N : Nat) (w : va_W) : Prop := ∃ q1 : Nat, w = [(h0, .inr (5, [.ref q1])), (q1, .inl (E.2.2.1 0, N, .inl (fun _ => 0)))]
theorem dX5_init_0 : decode cX5_init 0 = .ok (.aload_n 0, 1) := by decide +kernel
theorem dX5_init_1 : decode cX5_init 1 = .ok (.invokespecial 1, 3) := by decide +kernel
theorem dX5_init_4 : decode cX5_init 4 = .ok (.aload_n 0, 1) := by decide +kernel
theorem dX5_init_5 : decode cX5_init 5 = .ok (.iload_n 1, 1) := by decide +kernel
theorem dX5_init_6 : decode cX5_init 6 = .ok (.iconst 0, 1) := by decide +kernel
theorem dX5_init_7 : decode cX5_init 7 = .ok (.invokestatic 7, 3) := by decide +kernel
theorem dX5_init_10 : decode cX5_init 10 = .ok (.newarray .int, 2) := by decide +kernel
theorem dX5_init_12 : decode cX5_init 12 = .ok (.putfield 13, 3) := by decide +kernel
theorem dX5_init_15 : decode cX5_init 15 = .ok (.return_, 1) := by decide +kernel
set_option maxHeartbeats 8000000 in
set_option maxRecDepth 100000 in
theorem con_X5 {E : zE} (h0 : Nat) (v : Int32) (N : Nat) (hn : ¬ v < 0) (hN : v.toNatClampNeg = N) (hb : N * componentBytes .int ≤ 536870912) : zCon E yX5_init cX5_init 2 1 1 N [.ref h0, .int v] [(h0, .inr (5, [.null]))] (pw_X5 E h0 N) := by
  refine zCon_of (by decide) rfl (Nat.le_of_ble_eq_true rfl) (fun C A => ?_)
  show zB E C cX5_init RX5 2 1 1 N A _ _ 0 0 0 [(0, .ref h0), (1, .int v)] []
  refine zb_aload_n 0 dX5_init_0 rfl rfl ?_
  refine zb_obj lo_X5_1 oi1 oi2 (by omega) (Nat.le_of_ble_eq_true rfl) dX5_init_1 ?_
  refine zb_aload_n 0 dX5_init_4 rfl rfl ?_
  refine zb_iload_n 1 dX5_init_5 rfl rfl ?_
  refine zb_iconst (v := 0) dX5_init_6 (by decide) ?_
  refine zb_max (v := v) lk_RX5_7 (by omega) (Nat.le_of_ble_eq_true rfl) (if_neg hn) (by omega) (by omega) dX5_init_7 ?_
  refine zb_newi aci hn hN hb (by omega) (by omega) dX5_init_10 (fun q1 => ?_)
  refine zb_eq (ws' := [(h0, .inr (5, [.null])), (q1, .inl (E.2.2.1 0, N, .inl (fun _ => 0)))]) rfl ?_
  refine zb_putF (q0 := 0) pf_X5_13 rfl (Nat.le_of_ble_eq_true rfl) dX5_init_12 ?_
  refine zb_eq (ws' := [(h0, .inr (5, [.ref q1])), (q1, .inl (E.2.2.1 0, N, .inl (fun _ => 0)))]) rfl ?_
  exact zb_vret ⟨q1, rfl⟩ (by omega) (by omega) dX5_init_15
def pw_X0 (E : zE) (h0 : Nat) (w : va_W) : Prop := ∃ q1 q2 q4 q5 q7 q8 q10 q11 q13 q14 : Nat, w = [(h0, .inr (0, [.ref q1, .ref q4, .ref q7, .ref q10, .ref q13, .int 0, .int 0, .int 0, .int 0, .int 0])), (q1, .inr (5, [.ref q2])), (q2, .inl (E.2.2.1 0, 10000, .inl (fun _ => 0))), (q4, .inr (5, [.ref q5])), (q5, .inl (E.2.2.1 0, 3336, .inl (fun _ => 0))), (q7, .inr (5, [.ref q8])), (q8, .inl (E.2.2.1 0, 3336, .inl (fun _ => 0))), (q10, .inr (5, [.ref q11])), (q11, .inl (E.2.2.1 0, 1668, .inl (fun _ => 0))), (q13, .inr (5, [.ref q14])), (q14, .inl (E.2.2.1 0, 1668, .inl (fun _ => 0)))]
theorem dX0_init_0 : decode cX0_init 0 = .ok (.aload_n 0, 1) := by decide +kernel
theorem dX0_init_1 : decode cX0_init 1 = .ok (.invokespecial 3, 3) := by decide +kernel
theorem dX0_init_4 : decode cX0_init 4 = .ok (.aload_n 0, 1) := by decide +kernel
theorem dX0_init_5 : decode cX0_init 5 = .ok (.new 9, 3) := by decide +kernel
theorem dX0_init_8 : decode cX0_init 8 = .ok (.dup, 1) := by decide +kernel
theorem dX0_init_9 : decode cX0_init 9 = .ok (.sipush 10000, 3) := by decide +kernel
theorem dX0_init_12 : decode cX0_init 12 = .ok (.invokespecial 11, 3) := by decide +kernel
theorem dX0_init_15 : decode cX0_init 15 = .ok (.putfield 14, 3) := by decide +kernel
theorem dX0_init_18 : decode cX0_init 18 = .ok (.aload_n 0, 1) := by decide +kernel
theorem dX0_init_19 : decode cX0_init 19 = .ok (.new 9, 3) := by decide +kernel
theorem dX0_init_22 : decode cX0_init 22 = .ok (.dup, 1) := by decide +kernel
theorem dX0_init_23 : decode cX0_init 23 = .ok (.sipush 3336, 3) := by decide +kernel
theorem dX0_init_26 : decode cX0_init 26 = .ok (.invokespecial 11, 3) := by decide +kernel
theorem dX0_init_29 : decode cX0_init 29 = .ok (.putfield 20, 3) := by decide +kernel
theorem dX0_init_32 : decode cX0_init 32 = .ok (.aload_n 0, 1) := by decide +kernel
theorem dX0_init_33 : decode cX0_init 33 = .ok (.new 9, 3) := by decide +kernel
theorem dX0_init_36 : decode cX0_init 36 = .ok (.dup, 1) := by decide +kernel
theorem dX0_init_37 : decode cX0_init 37 = .ok (.sipush 3336, 3) := by decide +kernel
theorem dX0_init_40 : decode cX0_init 40 = .ok (.invokespecial 11, 3) := by decide +kernel
theorem dX0_init_43 : decode cX0_init 43 = .ok (.putfield 23, 3) := by decide +kernel
theorem dX0_init_46 : decode cX0_init 46 = .ok (.aload_n 0, 1) := by decide +kernel
theorem dX0_init_47 : decode cX0_init 47 = .ok (.new 9, 3) := by decide +kernel
theorem dX0_init_50 : decode cX0_init 50 = .ok (.dup, 1) := by decide +kernel
theorem dX0_init_51 : decode cX0_init 51 = .ok (.sipush 1668, 3) := by decide +kernel
theorem dX0_init_54 : decode cX0_init 54 = .ok (.invokespecial 11, 3) := by decide +kernel
theorem dX0_init_57 : decode cX0_init 57 = .ok (.putfield 26, 3) := by decide +kernel
theorem dX0_init_60 : decode cX0_init 60 = .ok (.aload_n 0, 1) := by decide +kernel
theorem dX0_init_61 : decode cX0_init 61 = .ok (.new 9, 3) := by decide +kernel
theorem dX0_init_64 : decode cX0_init 64 = .ok (.dup, 1) := by decide +kernel
theorem dX0_init_65 : decode cX0_init 65 = .ok (.sipush 1668, 3) := by decide +kernel
theorem dX0_init_68 : decode cX0_init 68 = .ok (.invokespecial 11, 3) := by decide +kernel
theorem dX0_init_71 : decode cX0_init 71 = .ok (.putfield 29, 3) := by decide +kernel
theorem dX0_init_74 : decode cX0_init 74 = .ok (.return_, 1) := by decide +kernel
set_option maxHeartbeats 8000000 in
set_option maxRecDepth 100000 in
theorem con_X0 {E : zE} (h0 : Nat) : zCon E yX0_init cX0_init 1 2 10 20013 [.ref h0] [(h0, .inr (0, [.null, .null, .null, .null, .null, .int 0, .int 0, .int 0, .int 0, .int 0]))] (pw_X0 E h0) := by
  refine zCon_of (by decide) rfl (Nat.le_of_ble_eq_true rfl) (fun C A => ?_)
  show zB E C cX0_init RX0 1 2 10 20013 A _ _ 0 0 0 [(0, .ref h0)] []
  refine zb_aload_n 0 dX0_init_0 rfl rfl ?_
  refine zb_obj lo_X0_3 oi1 oi2 (by omega) (Nat.le_of_ble_eq_true rfl) dX0_init_1 ?_
  refine zb_aload_n 0 dX0_init_4 rfl rfl ?_
  refine zb_new mk_X0_9 (by omega) (by omega) dX0_init_5 (fun q1 => ?_)
  refine zb_eq (ws' := [(h0, .inr (0, [.null, .null, .null, .null, .null, .int 0, .int 0, .int 0, .int 0, .int 0])), (q1, .inr (5, [.null]))]) rfl ?_
  refine zb_num (k' := 1) (n' := 1) (by decide) (by decide) ?_
  refine zb_dup dX0_init_8 rfl ?_
  refine zb_sipush (v := 10000) dX0_init_9 (by decide) ?_
  refine zb_call (con_X5 (E := E) q1 10000 10000 (by decide) (by decide) (by decide)) yy_X5_init rfl yi_X5_init li_X0_11 (by omega) rfl rfl (Nat.le_of_ble_eq_true rfl) [1] [0] rfl rfl (by decide) (by decide) (by decide) (by omega) (by omega) dX0_init_12 (fun w1 hw3 => ?_)
  obtain ⟨q2, rfl⟩ := hw3
  refine zb_eq (ws' := [(h0, .inr (0, [.null, .null, .null, .null, .null, .int 0, .int 0, .int 0, .int 0, .int 0])), (q1, .inr (5, [.ref q2])), (q2, .inl (E.2.2.1 0, 10000, .inl (fun _ => 0)))]) rfl ?_
  refine zb_num (k' := 2) (n' := 10001) (by decide) (by decide) ?_
  refine zb_putF (q0 := 0) pf_X0_14 rfl (Nat.le_of_ble_eq_true rfl) dX0_init_15 ?_
  refine zb_eq (ws' := [(h0, .inr (0, [.ref q1, .null, .null, .null, .null, .int 0, .int 0, .int 0, .int 0, .int 0])), (q1, .inr (5, [.ref q2])), (q2, .inl (E.2.2.1 0, 10000, .inl (fun _ => 0)))]) rfl ?_
  refine zb_num (k' := 2) (n' := 10001) (by decide) (by decide) ?_
  refine zb_aload_n 0 dX0_init_18 rfl rfl ?_
  refine zb_new mk_X0_9 (by omega) (by omega) dX0_init_19 (fun q4 => ?_)
  refine zb_eq (ws' := [(h0, .inr (0, [.ref q1, .null, .null, .null, .null, .int 0, .int 0, .int 0, .int 0, .int 0])), (q1, .inr (5, [.ref q2])), (q2, .inl (E.2.2.1 0, 10000, .inl (fun _ => 0))), (q4, .inr (5, [.null]))]) rfl ?_
  refine zb_num (k' := 3) (n' := 10002) (by decide) (by decide) ?_
  refine zb_dup dX0_init_22 rfl ?_
  refine zb_sipush (v := 3336) dX0_init_23 (by decide) ?_
  refine zb_call (con_X5 (E := E) q4 3336 3336 (by decide) (by decide) (by decide)) yy_X5_init rfl yi_X5_init li_X0_11 (by omega) rfl rfl (Nat.le_of_ble_eq_true rfl) [3] [0, 1, 2] rfl rfl (by decide) (by decide) (by decide) (by omega) (by omega) dX0_init_26 (fun w1 hw6 => ?_)
  obtain ⟨q5, rfl⟩ := hw6
  refine zb_eq (ws' := [(h0, .inr (0, [.ref q1, .null, .null, .null, .null, .int 0, .int 0, .int 0, .int 0, .int 0])), (q1, .inr (5, [.ref q2])), (q2, .inl (E.2.2.1 0, 10000, .inl (fun _ => 0))), (q4, .inr (5, [.ref q5])), (q5, .inl (E.2.2.1 0, 3336, .inl (fun _ => 0)))]) rfl ?_
  refine zb_num (k' := 4) (n' := 13338) (by decide) (by decide) ?_
  refine zb_putF (q0 := 0) pf_X0_20 rfl (Nat.le_of_ble_eq_true rfl) dX0_init_29 ?_
  refine zb_eq (ws' := [(h0, .inr (0, [.ref q1, .ref q4, .null, .null, .null, .int 0, .int 0, .int 0, .int 0, .int 0])), (q1, .inr (5, [.ref q2])), (q2, .inl (E.2.2.1 0, 10000, .inl (fun _ => 0))), (q4, .inr (5, [.ref q5])), (q5, .inl (E.2.2.1 0, 3336, .inl (fun _ => 0)))]) rfl ?_
  refine zb_num (k' := 4) (n' := 13338) (by decide) (by decide) ?_
  refine zb_aload_n 0 dX0_init_32 rfl rfl ?_
  refine zb_new mk_X0_9 (by omega) (by omega) dX0_init_33 (fun q7 => ?_)
  refine zb_eq (ws' := [(h0, .inr (0, [.ref q1, .ref q4, .null, .null, .null, .int 0, .int 0, .int 0, .int 0, .int 0])), (q1, .inr (5, [.ref q2])), (q2, .inl (E.2.2.1 0, 10000, .inl (fun _ => 0))), (q4, .inr (5, [.ref q5])), (q5, .inl (E.2.2.1 0, 3336, .inl (fun _ => 0))), (q7, .inr (5, [.null]))]) rfl ?_
  refine zb_num (k' := 5) (n' := 13339) (by decide) (by decide) ?_
  refine zb_dup dX0_init_36 rfl ?_
  refine zb_sipush (v := 3336) dX0_init_37 (by decide) ?_
  refine zb_call (con_X5 (E := E) q7 3336 3336 (by decide) (by decide) (by decide)) yy_X5_init rfl yi_X5_init li_X0_11 (by omega) rfl rfl (Nat.le_of_ble_eq_true rfl) [5] [0, 1, 2, 3, 4] rfl rfl (by decide) (by decide) (by decide) (by omega) (by omega) dX0_init_40 (fun w1 hw9 => ?_)
  obtain ⟨q8, rfl⟩ := hw9
  refine zb_eq (ws' := [(h0, .inr (0, [.ref q1, .ref q4, .null, .null, .null, .int 0, .int 0, .int 0, .int 0, .int 0])), (q1, .inr (5, [.ref q2])), (q2, .inl (E.2.2.1 0, 10000, .inl (fun _ => 0))), (q4, .inr (5, [.ref q5])), (q5, .inl (E.2.2.1 0, 3336, .inl (fun _ => 0))), (q7, .inr (5, [.ref q8])), (q8, .inl (E.2.2.1 0, 3336, .inl (fun _ => 0)))]) rfl ?_
  refine zb_num (k' := 6) (n' := 16675) (by decide) (by decide) ?_
  refine zb_putF (q0 := 0) pf_X0_23 rfl (Nat.le_of_ble_eq_true rfl) dX0_init_43 ?_
  refine zb_eq (ws' := [(h0, .inr (0, [.ref q1, .ref q4, .ref q7, .null, .null, .int 0, .int 0, .int 0, .int 0, .int 0])), (q1, .inr (5, [.ref q2])), (q2, .inl (E.2.2.1 0, 10000, .inl (fun _ => 0))), (q4, .inr (5, [.ref q5])), (q5, .inl (E.2.2.1 0, 3336, .inl (fun _ => 0))), (q7, .inr (5, [.ref q8])), (q8, .inl (E.2.2.1 0, 3336, .inl (fun _ => 0)))]) rfl ?_
  refine zb_num (k' := 6) (n' := 16675) (by decide) (by decide) ?_
  refine zb_aload_n 0 dX0_init_46 rfl rfl ?_
  refine zb_new mk_X0_9 (by omega) (by omega) dX0_init_47 (fun q10 => ?_)
  refine zb_eq (ws' := [(h0, .inr (0, [.ref q1, .ref q4, .ref q7, .null, .null, .int 0, .int 0, .int 0, .int 0, .int 0])), (q1, .inr (5, [.ref q2])), (q2, .inl (E.2.2.1 0, 10000, .inl (fun _ => 0))), (q4, .inr (5, [.ref q5])), (q5, .inl (E.2.2.1 0, 3336, .inl (fun _ => 0))), (q7, .inr (5, [.ref q8])), (q8, .inl (E.2.2.1 0, 3336, .inl (fun _ => 0))), (q10, .inr (5, [.null]))]) rfl ?_
  refine zb_num (k' := 7) (n' := 16676) (by decide) (by decide) ?_
  refine zb_dup dX0_init_50 rfl ?_
  refine zb_sipush (v := 1668) dX0_init_51 (by decide) ?_
  refine zb_call (con_X5 (E := E) q10 1668 1668 (by decide) (by decide) (by decide)) yy_X5_init rfl yi_X5_init li_X0_11 (by omega) rfl rfl (Nat.le_of_ble_eq_true rfl) [7] [0, 1, 2, 3, 4, 5, 6] rfl rfl (by decide) (by decide) (by decide) (by omega) (by omega) dX0_init_54 (fun w1 hw12 => ?_)
  obtain ⟨q11, rfl⟩ := hw12
  refine zb_eq (ws' := [(h0, .inr (0, [.ref q1, .ref q4, .ref q7, .null, .null, .int 0, .int 0, .int 0, .int 0, .int 0])), (q1, .inr (5, [.ref q2])), (q2, .inl (E.2.2.1 0, 10000, .inl (fun _ => 0))), (q4, .inr (5, [.ref q5])), (q5, .inl (E.2.2.1 0, 3336, .inl (fun _ => 0))), (q7, .inr (5, [.ref q8])), (q8, .inl (E.2.2.1 0, 3336, .inl (fun _ => 0))), (q10, .inr (5, [.ref q11])), (q11, .inl (E.2.2.1 0, 1668, .inl (fun _ => 0)))]) rfl ?_
  refine zb_num (k' := 8) (n' := 18344) (by decide) (by decide) ?_
  refine zb_putF (q0 := 0) pf_X0_26 rfl (Nat.le_of_ble_eq_true rfl) dX0_init_57 ?_
  refine zb_eq (ws' := [(h0, .inr (0, [.ref q1, .ref q4, .ref q7, .ref q10, .null, .int 0, .int 0, .int 0, .int 0, .int 0])), (q1, .inr (5, [.ref q2])), (q2, .inl (E.2.2.1 0, 10000, .inl (fun _ => 0))), (q4, .inr (5, [.ref q5])), (q5, .inl (E.2.2.1 0, 3336, .inl (fun _ => 0))), (q7, .inr (5, [.ref q8])), (q8, .inl (E.2.2.1 0, 3336, .inl (fun _ => 0))), (q10, .inr (5, [.ref q11])), (q11, .inl (E.2.2.1 0, 1668, .inl (fun _ => 0)))]) rfl ?_
  refine zb_num (k' := 8) (n' := 18344) (by decide) (by decide) ?_
  refine zb_aload_n 0 dX0_init_60 rfl rfl ?_
  refine zb_new mk_X0_9 (by omega) (by omega) dX0_init_61 (fun q13 => ?_)
  refine zb_eq (ws' := [(h0, .inr (0, [.ref q1, .ref q4, .ref q7, .ref q10, .null, .int 0, .int 0, .int 0, .int 0, .int 0])), (q1, .inr (5, [.ref q2])), (q2, .inl (E.2.2.1 0, 10000, .inl (fun _ => 0))), (q4, .inr (5, [.ref q5])), (q5, .inl (E.2.2.1 0, 3336, .inl (fun _ => 0))), (q7, .inr (5, [.ref q8])), (q8, .inl (E.2.2.1 0, 3336, .inl (fun _ => 0))), (q10, .inr (5, [.ref q11])), (q11, .inl (E.2.2.1 0, 1668, .inl (fun _ => 0))), (q13, .inr (5, [.null]))]) rfl ?_
  refine zb_num (k' := 9) (n' := 18345) (by decide) (by decide) ?_
  refine zb_dup dX0_init_64 rfl ?_
  refine zb_sipush (v := 1668) dX0_init_65 (by decide) ?_
  refine zb_call (con_X5 (E := E) q13 1668 1668 (by decide) (by decide) (by decide)) yy_X5_init rfl yi_X5_init li_X0_11 (by omega) rfl rfl (Nat.le_of_ble_eq_true rfl) [9] [0, 1, 2, 3, 4, 5, 6, 7, 8] rfl rfl (by decide) (by decide) (by decide) (by omega) (by omega) dX0_init_68 (fun w1 hw15 => ?_)
  obtain ⟨q14, rfl⟩ := hw15
  refine zb_eq (ws' := [(h0, .inr (0, [.ref q1, .ref q4, .ref q7, .ref q10, .null, .int 0, .int 0, .int 0, .int 0, .int 0])), (q1, .inr (5, [.ref q2])), (q2, .inl (E.2.2.1 0, 10000, .inl (fun _ => 0))), (q4, .inr (5, [.ref q5])), (q5, .inl (E.2.2.1 0, 3336, .inl (fun _ => 0))), (q7, .inr (5, [.ref q8])), (q8, .inl (E.2.2.1 0, 3336, .inl (fun _ => 0))), (q10, .inr (5, [.ref q11])), (q11, .inl (E.2.2.1 0, 1668, .inl (fun _ => 0))), (q13, .inr (5, [.ref q14])), (q14, .inl (E.2.2.1 0, 1668, .inl (fun _ => 0)))]) rfl ?_
  refine zb_num (k' := 10) (n' := 20013) (by decide) (by decide) ?_
  refine zb_putF (q0 := 0) pf_X0_29 rfl (Nat.le_of_ble_eq_true rfl) dX0_init_71 ?_
  refine zb_eq (ws' := [(h0, .inr (0, [.ref q1, .ref q4, .ref q7, .ref q10, .ref q13, .int 0, .int 0, .int 0, .int 0, .int 0])), (q1, .inr (5, [.ref q2])), (q2, .inl (E.2.2.1 0, 10000, .inl (fun _ => 0))), (q4, .inr (5, [.ref q5])), (q5, .inl (E.2.2.1 0, 3336, .inl (fun _ => 0))), (q7, .inr (5, [.ref q8])), (q8, .inl (E.2.2.1 0, 3336, .inl (fun _ => 0))), (q10, .inr (5, [.ref q11])), (q11, .inl (E.2.2.1 0, 1668, .inl (fun _ => 0))), (q13, .inr (5, [.ref q14])), (q14, .inl (E.2.2.1 0, 1668, .inl (fun _ => 0)))]) rfl ?_
  refine zb_num (k' := 10) (n' := 20013) (by decide) (by decide) ?_
  exact zb_vret ⟨q1, q2, q4, q5, q7, q8, q10, q11, q13, q14, rfl⟩ (by omega) (by omega) dX0_init_74
def pw_X1 (E : zE) (h0 : Nat) (a1 : Nat) (a2 : Nat) (a3 : Nat) (a4 : Nat) (w : va_W) : Prop := ∃ q1 q2 : Nat, w = [(h0, .inr (1, [.ref a1, .ref a2, .ref a3, .ref a4, .ref q1, .int 0, .int 0])), (q1, .inr (5, [.ref q2])), (q2, .inl (E.2.2.1 0, 80000, .inl (fun _ => 0)))]
theorem dX1_init_0 : decode cX1_init 0 = .ok (.aload_n 0, 1) := by decide +kernel
theorem dX1_init_1 : decode cX1_init 1 = .ok (.invokespecial 3, 3) := by decide +kernel
theorem dX1_init_4 : decode cX1_init 4 = .ok (.aload_n 0, 1) := by decide +kernel
theorem dX1_init_5 : decode cX1_init 5 = .ok (.new 9, 3) := by decide +kernel
theorem dX1_init_8 : decode cX1_init 8 = .ok (.dup, 1) := by decide +kernel
theorem dX1_init_9 : decode cX1_init 9 = .ok (.ldc 11, 2) := by decide +kernel
theorem dX1_init_11 : decode cX1_init 11 = .ok (.invokespecial 12, 3) := by decide +kernel
theorem dX1_init_14 : decode cX1_init 14 = .ok (.putfield 15, 3) := by decide +kernel
theorem dX1_init_17 : decode cX1_init 17 = .ok (.aload_n 0, 1) := by decide +kernel
theorem dX1_init_18 : decode cX1_init 18 = .ok (.aload_n 1, 1) := by decide +kernel
theorem dX1_init_19 : decode cX1_init 19 = .ok (.putfield 21, 3) := by decide +kernel
theorem dX1_init_22 : decode cX1_init 22 = .ok (.aload_n 0, 1) := by decide +kernel
theorem dX1_init_23 : decode cX1_init 23 = .ok (.aload_n 2, 1) := by decide +kernel
theorem dX1_init_24 : decode cX1_init 24 = .ok (.putfield 25, 3) := by decide +kernel
theorem dX1_init_27 : decode cX1_init 27 = .ok (.aload_n 0, 1) := by decide +kernel
theorem dX1_init_28 : decode cX1_init 28 = .ok (.aload_n 3, 1) := by decide +kernel
theorem dX1_init_29 : decode cX1_init 29 = .ok (.putfield 29, 3) := by decide +kernel
theorem dX1_init_32 : decode cX1_init 32 = .ok (.aload_n 0, 1) := by decide +kernel
theorem dX1_init_33 : decode cX1_init 33 = .ok (.aload 4, 2) := by decide +kernel
theorem dX1_init_35 : decode cX1_init 35 = .ok (.putfield 33, 3) := by decide +kernel
theorem dX1_init_38 : decode cX1_init 38 = .ok (.return_, 1) := by decide +kernel
set_option maxHeartbeats 8000000 in
set_option maxRecDepth 100000 in
theorem con_X1 {E : zE} (h0 : Nat) (a1 : Nat) (a2 : Nat) (a3 : Nat) (a4 : Nat) : zCon E yX1_init cX1_init 5 2 2 80001 [.ref h0, .ref a1, .ref a2, .ref a3, .ref a4] [(h0, .inr (1, [.null, .null, .null, .null, .null, .int 0, .int 0]))] (pw_X1 E h0 a1 a2 a3 a4) := by
  refine zCon_of (by decide) rfl (Nat.le_of_ble_eq_true rfl) (fun C A => ?_)
  show zB E C cX1_init RX1 5 2 2 80001 A _ _ 0 0 0 [(0, .ref h0), (1, .ref a1), (2, .ref a2), (3, .ref a3), (4, .ref a4)] []
  refine zb_aload_n 0 dX1_init_0 rfl rfl ?_
  refine zb_obj lo_X1_3 oi1 oi2 (by omega) (Nat.le_of_ble_eq_true rfl) dX1_init_1 ?_
  refine zb_aload_n 0 dX1_init_4 rfl rfl ?_
  refine zb_new mk_X1_9 (by omega) (by omega) dX1_init_5 (fun q1 => ?_)
  refine zb_eq (ws' := [(h0, .inr (1, [.null, .null, .null, .null, .null, .int 0, .int 0])), (q1, .inr (5, [.null]))]) rfl ?_
  refine zb_num (k' := 1) (n' := 1) (by decide) (by decide) ?_
  refine zb_dup dX1_init_8 rfl ?_
  refine zb_ldc kc_RX1_11 dX1_init_9 ?_
  refine zb_call (con_X5 (E := E) q1 80000 80000 (by decide) (by decide) (by decide)) yy_X5_init rfl yi_X5_init li_X1_12 (by omega) rfl rfl (Nat.le_of_ble_eq_true rfl) [1] [0] rfl rfl (by decide) (by decide) (by decide) (by omega) (by omega) dX1_init_11 (fun w1 hw3 => ?_)
  obtain ⟨q2, rfl⟩ := hw3
  refine zb_eq (ws' := [(h0, .inr (1, [.null, .null, .null, .null, .null, .int 0, .int 0])), (q1, .inr (5, [.ref q2])), (q2, .inl (E.2.2.1 0, 80000, .inl (fun _ => 0)))]) rfl ?_
  refine zb_num (k' := 2) (n' := 80001) (by decide) (by decide) ?_
  refine zb_putF (q0 := 0) pf_X1_15 rfl (Nat.le_of_ble_eq_true rfl) dX1_init_14 ?_
  refine zb_eq (ws' := [(h0, .inr (1, [.null, .null, .null, .null, .ref q1, .int 0, .int 0])), (q1, .inr (5, [.ref q2])), (q2, .inl (E.2.2.1 0, 80000, .inl (fun _ => 0)))]) rfl ?_
  refine zb_num (k' := 2) (n' := 80001) (by decide) (by decide) ?_
  refine zb_aload_n 0 dX1_init_17 rfl rfl ?_
  refine zb_aload_n 1 dX1_init_18 rfl rfl ?_
  refine zb_putF (q0 := 0) pf_X1_21 rfl (Nat.le_of_ble_eq_true rfl) dX1_init_19 ?_
  refine zb_eq (ws' := [(h0, .inr (1, [.ref a1, .null, .null, .null, .ref q1, .int 0, .int 0])), (q1, .inr (5, [.ref q2])), (q2, .inl (E.2.2.1 0, 80000, .inl (fun _ => 0)))]) rfl ?_
  refine zb_num (k' := 2) (n' := 80001) (by decide) (by decide) ?_
  refine zb_aload_n 0 dX1_init_22 rfl rfl ?_
  refine zb_aload_n 2 dX1_init_23 rfl rfl ?_
  refine zb_putF (q0 := 0) pf_X1_25 rfl (Nat.le_of_ble_eq_true rfl) dX1_init_24 ?_
  refine zb_eq (ws' := [(h0, .inr (1, [.ref a1, .ref a2, .null, .null, .ref q1, .int 0, .int 0])), (q1, .inr (5, [.ref q2])), (q2, .inl (E.2.2.1 0, 80000, .inl (fun _ => 0)))]) rfl ?_
  refine zb_num (k' := 2) (n' := 80001) (by decide) (by decide) ?_
  refine zb_aload_n 0 dX1_init_27 rfl rfl ?_
  refine zb_aload_n 3 dX1_init_28 rfl rfl ?_
  refine zb_putF (q0 := 0) pf_X1_29 rfl (Nat.le_of_ble_eq_true rfl) dX1_init_29 ?_
  refine zb_eq (ws' := [(h0, .inr (1, [.ref a1, .ref a2, .ref a3, .null, .ref q1, .int 0, .int 0])), (q1, .inr (5, [.ref q2])), (q2, .inl (E.2.2.1 0, 80000, .inl (fun _ => 0)))]) rfl ?_
  refine zb_num (k' := 2) (n' := 80001) (by decide) (by decide) ?_
  refine zb_aload_n 0 dX1_init_32 rfl rfl ?_
  refine zb_aload 4 dX1_init_33 rfl ?_
  refine zb_putF (q0 := 0) pf_X1_33 rfl (Nat.le_of_ble_eq_true rfl) dX1_init_35 ?_
  refine zb_eq (ws' := [(h0, .inr (1, [.ref a1, .ref a2, .ref a3, .ref a4, .ref q1, .int 0, .int 0])), (q1, .inr (5, [.ref q2])), (q2, .inl (E.2.2.1 0, 80000, .inl (fun _ => 0)))]) rfl ?_
  refine zb_num (k' := 2) (n' := 80001) (by decide) (by decide) ?_
  exact zb_vret ⟨q1, q2, rfl⟩ (by omega) (by omega) dX1_init_38
def pw_X2 (E : zE) (h0 : Nat) (w : va_W) : Prop := ∃ q1 q2 q4 q5 q7 q8 q10 q11 q13 q14 q16 q17 q19 q20 q22 q23 q25 q26 q28 q29 q31 q32 q34 q35 : Nat, w = [(h0, .inr (2, [.ref q1, .ref q4, .ref q7, .ref q10, .ref q13, .ref q16, .ref q19, .ref q22, .ref q25, .ref q28, .ref q31, .ref q34, .int 0, .int 0, .int 0, .int 0])), (q1, .inr (5, [.ref q2])), (q2, .inl (E.2.2.1 0, 3000, .inl (fun _ => 0))), (q4, .inr (5, [.ref q5])), (q5, .inl (E.2.2.1 0, 3000, .inl (fun _ => 0))), (q7, .inr (5, [.ref q8])), (q8, .inl (E.2.2.1 0, 3000, .inl (fun _ => 0))), (q10, .inr (5, [.ref q11])), (q11, .inl (E.2.2.1 0, 1600, .inl (fun _ => 0))), (q13, .inr (5, [.ref q14])), (q14, .inl (E.2.2.1 0, 1600, .inl (fun _ => 0))), (q16, .inr (5, [.ref q17])), (q17, .inl (E.2.2.1 0, 1600, .inl (fun _ => 0))), (q19, .inr (5, [.ref q20])), (q20, .inl (E.2.2.1 0, 400, .inl (fun _ => 0))), (q22, .inr (5, [.ref q23])), (q23, .inl (E.2.2.1 0, 400, .inl (fun _ => 0))), (q25, .inr (5, [.ref q26])), (q26, .inl (E.2.2.1 0, 1600, .inl (fun _ => 0))), (q28, .inr (5, [.ref q29])), (q29, .inl (E.2.2.1 0, 400, .inl (fun _ => 0))), (q31, .inr (5, [.ref q32])), (q32, .inl (E.2.2.1 0, 6000, .inl (fun _ => 0))), (q34, .inr (5, [.ref q35])), (q35, .inl (E.2.2.1 0, 12004, .inl (fun _ => 0)))]
theorem dX2_init_0 : decode cX2_init 0 = .ok (.aload_n 0, 1) := by decide +kernel
theorem dX2_init_1 : decode cX2_init 1 = .ok (.invokespecial 3, 3) := by decide +kernel
theorem dX2_init_4 : decode cX2_init 4 = .ok (.aload_n 0, 1) := by decide +kernel
theorem dX2_init_5 : decode cX2_init 5 = .ok (.new 9, 3) := by decide +kernel
theorem dX2_init_8 : decode cX2_init 8 = .ok (.dup, 1) := by decide +kernel
theorem dX2_init_9 : decode cX2_init 9 = .ok (.sipush 3000, 3) := by decide +kernel
theorem dX2_init_12 : decode cX2_init 12 = .ok (.invokespecial 11, 3) := by decide +kernel
theorem dX2_init_15 : decode cX2_init 15 = .ok (.putfield 14, 3) := by decide +kernel
theorem dX2_init_18 : decode cX2_init 18 = .ok (.aload_n 0, 1) := by decide +kernel
theorem dX2_init_19 : decode cX2_init 19 = .ok (.new 9, 3) := by decide +kernel
theorem dX2_init_22 : decode cX2_init 22 = .ok (.dup, 1) := by decide +kernel
theorem dX2_init_23 : decode cX2_init 23 = .ok (.sipush 3000, 3) := by decide +kernel
theorem dX2_init_26 : decode cX2_init 26 = .ok (.invokespecial 11, 3) := by decide +kernel
theorem dX2_init_29 : decode cX2_init 29 = .ok (.putfield 20, 3) := by decide +kernel
theorem dX2_init_32 : decode cX2_init 32 = .ok (.aload_n 0, 1) := by decide +kernel
theorem dX2_init_33 : decode cX2_init 33 = .ok (.new 9, 3) := by decide +kernel
theorem dX2_init_36 : decode cX2_init 36 = .ok (.dup, 1) := by decide +kernel
theorem dX2_init_37 : decode cX2_init 37 = .ok (.sipush 3000, 3) := by decide +kernel
theorem dX2_init_40 : decode cX2_init 40 = .ok (.invokespecial 11, 3) := by decide +kernel
theorem dX2_init_43 : decode cX2_init 43 = .ok (.putfield 23, 3) := by decide +kernel
theorem dX2_init_46 : decode cX2_init 46 = .ok (.aload_n 0, 1) := by decide +kernel
theorem dX2_init_47 : decode cX2_init 47 = .ok (.new 9, 3) := by decide +kernel
theorem dX2_init_50 : decode cX2_init 50 = .ok (.dup, 1) := by decide +kernel
theorem dX2_init_51 : decode cX2_init 51 = .ok (.sipush 1600, 3) := by decide +kernel
theorem dX2_init_54 : decode cX2_init 54 = .ok (.invokespecial 11, 3) := by decide +kernel
theorem dX2_init_57 : decode cX2_init 57 = .ok (.putfield 26, 3) := by decide +kernel
theorem dX2_init_60 : decode cX2_init 60 = .ok (.aload_n 0, 1) := by decide +kernel
theorem dX2_init_61 : decode cX2_init 61 = .ok (.new 9, 3) := by decide +kernel
theorem dX2_init_64 : decode cX2_init 64 = .ok (.dup, 1) := by decide +kernel
theorem dX2_init_65 : decode cX2_init 65 = .ok (.sipush 1600, 3) := by decide +kernel
theorem dX2_init_68 : decode cX2_init 68 = .ok (.invokespecial 11, 3) := by decide +kernel
theorem dX2_init_71 : decode cX2_init 71 = .ok (.putfield 29, 3) := by decide +kernel
theorem dX2_init_74 : decode cX2_init 74 = .ok (.aload_n 0, 1) := by decide +kernel
theorem dX2_init_75 : decode cX2_init 75 = .ok (.new 9, 3) := by decide +kernel
theorem dX2_init_78 : decode cX2_init 78 = .ok (.dup, 1) := by decide +kernel
theorem dX2_init_79 : decode cX2_init 79 = .ok (.sipush 1600, 3) := by decide +kernel
theorem dX2_init_82 : decode cX2_init 82 = .ok (.invokespecial 11, 3) := by decide +kernel
theorem dX2_init_85 : decode cX2_init 85 = .ok (.putfield 32, 3) := by decide +kernel
theorem dX2_init_88 : decode cX2_init 88 = .ok (.aload_n 0, 1) := by decide +kernel
theorem dX2_init_89 : decode cX2_init 89 = .ok (.new 9, 3) := by decide +kernel
theorem dX2_init_92 : decode cX2_init 92 = .ok (.dup, 1) := by decide +kernel
theorem dX2_init_93 : decode cX2_init 93 = .ok (.sipush 400, 3) := by decide +kernel
theorem dX2_init_96 : decode cX2_init 96 = .ok (.invokespecial 11, 3) := by decide +kernel
theorem dX2_init_99 : decode cX2_init 99 = .ok (.putfield 35, 3) := by decide +kernel
theorem dX2_init_102 : decode cX2_init 102 = .ok (.aload_n 0, 1) := by decide +kernel
theorem dX2_init_103 : decode cX2_init 103 = .ok (.new 9, 3) := by decide +kernel
theorem dX2_init_106 : decode cX2_init 106 = .ok (.dup, 1) := by decide +kernel
theorem dX2_init_107 : decode cX2_init 107 = .ok (.sipush 400, 3) := by decide +kernel
theorem dX2_init_110 : decode cX2_init 110 = .ok (.invokespecial 11, 3) := by decide +kernel
theorem dX2_init_113 : decode cX2_init 113 = .ok (.putfield 38, 3) := by decide +kernel
theorem dX2_init_116 : decode cX2_init 116 = .ok (.aload_n 0, 1) := by decide +kernel
theorem dX2_init_117 : decode cX2_init 117 = .ok (.new 9, 3) := by decide +kernel
theorem dX2_init_120 : decode cX2_init 120 = .ok (.dup, 1) := by decide +kernel
theorem dX2_init_121 : decode cX2_init 121 = .ok (.sipush 1600, 3) := by decide +kernel
theorem dX2_init_124 : decode cX2_init 124 = .ok (.invokespecial 11, 3) := by decide +kernel
theorem dX2_init_127 : decode cX2_init 127 = .ok (.putfield 41, 3) := by decide +kernel
theorem dX2_init_130 : decode cX2_init 130 = .ok (.aload_n 0, 1) := by decide +kernel
theorem dX2_init_131 : decode cX2_init 131 = .ok (.new 9, 3) := by decide +kernel
theorem dX2_init_134 : decode cX2_init 134 = .ok (.dup, 1) := by decide +kernel
theorem dX2_init_135 : decode cX2_init 135 = .ok (.sipush 400, 3) := by decide +kernel
theorem dX2_init_138 : decode cX2_init 138 = .ok (.invokespecial 11, 3) := by decide +kernel
theorem dX2_init_141 : decode cX2_init 141 = .ok (.putfield 44, 3) := by decide +kernel
theorem dX2_init_144 : decode cX2_init 144 = .ok (.aload_n 0, 1) := by decide +kernel
theorem dX2_init_145 : decode cX2_init 145 = .ok (.new 9, 3) := by decide +kernel
theorem dX2_init_148 : decode cX2_init 148 = .ok (.dup, 1) := by decide +kernel
theorem dX2_init_149 : decode cX2_init 149 = .ok (.sipush 6000, 3) := by decide +kernel
theorem dX2_init_152 : decode cX2_init 152 = .ok (.invokespecial 11, 3) := by decide +kernel
theorem dX2_init_155 : decode cX2_init 155 = .ok (.putfield 47, 3) := by decide +kernel
theorem dX2_init_158 : decode cX2_init 158 = .ok (.aload_n 0, 1) := by decide +kernel
theorem dX2_init_159 : decode cX2_init 159 = .ok (.new 9, 3) := by decide +kernel
theorem dX2_init_162 : decode cX2_init 162 = .ok (.dup, 1) := by decide +kernel
theorem dX2_init_163 : decode cX2_init 163 = .ok (.sipush 12004, 3) := by decide +kernel
theorem dX2_init_166 : decode cX2_init 166 = .ok (.invokespecial 11, 3) := by decide +kernel
theorem dX2_init_169 : decode cX2_init 169 = .ok (.putfield 50, 3) := by decide +kernel
theorem dX2_init_172 : decode cX2_init 172 = .ok (.return_, 1) := by decide +kernel
set_option maxHeartbeats 8000000 in
set_option maxRecDepth 100000 in
theorem con_X2 {E : zE} (h0 : Nat) : zCon E yX2_init cX2_init 1 2 24 34616 [.ref h0] [(h0, .inr (2, [.null, .null, .null, .null, .null, .null, .null, .null, .null, .null, .null, .null, .int 0, .int 0, .int 0, .int 0]))] (pw_X2 E h0) := by
  refine zCon_of (by decide) rfl (Nat.le_of_ble_eq_true rfl) (fun C A => ?_)
  show zB E C cX2_init RX2 1 2 24 34616 A _ _ 0 0 0 [(0, .ref h0)] []
  refine zb_aload_n 0 dX2_init_0 rfl rfl ?_
  refine zb_obj lo_X2_3 oi1 oi2 (by omega) (Nat.le_of_ble_eq_true rfl) dX2_init_1 ?_
  refine zb_aload_n 0 dX2_init_4 rfl rfl ?_
  refine zb_new mk_X2_9 (by omega) (by omega) dX2_init_5 (fun q1 => ?_)
  refine zb_eq (ws' := [(h0, .inr (2, [.null, .null, .null, .null, .null, .null, .null, .null, .null, .null, .null, .null, .int 0, .int 0, .int 0, .int 0])), (q1, .inr (5, [.null]))]) rfl ?_
  refine zb_num (k' := 1) (n' := 1) (by decide) (by decide) ?_
  refine zb_dup dX2_init_8 rfl ?_
  refine zb_sipush (v := 3000) dX2_init_9 (by decide) ?_
  refine zb_call (con_X5 (E := E) q1 3000 3000 (by decide) (by decide) (by decide)) yy_X5_init rfl yi_X5_init li_X2_11 (by omega) rfl rfl (Nat.le_of_ble_eq_true rfl) [1] [0] rfl rfl (by decide) (by decide) (by decide) (by omega) (by omega) dX2_init_12 (fun w1 hw3 => ?_)
  obtain ⟨q2, rfl⟩ := hw3
  refine zb_eq (ws' := [(h0, .inr (2, [.null, .null, .null, .null, .null, .null, .null, .null, .null, .null, .null, .null, .int 0, .int 0, .int 0, .int 0])), (q1, .inr (5, [.ref q2])), (q2, .inl (E.2.2.1 0, 3000, .inl (fun _ => 0)))]) rfl ?_
  refine zb_num (k' := 2) (n' := 3001) (by decide) (by decide) ?_
  refine zb_putF (q0 := 0) pf_X2_14 rfl (Nat.le_of_ble_eq_true rfl) dX2_init_15 ?_
  refine zb_eq (ws' := [(h0, .inr (2, [.ref q1, .null, .null, .null, .null, .null, .null, .null, .null, .null, .null, .null, .int 0, .int 0, .int 0, .int 0])), (q1, .inr (5, [.ref q2])), (q2, .inl (E.2.2.1 0, 3000, .inl (fun _ => 0)))]) rfl ?_
  refine zb_num (k' := 2) (n' := 3001) (by decide) (by decide) ?_
  refine zb_aload_n 0 dX2_init_18 rfl rfl ?_
  refine zb_new mk_X2_9 (by omega) (by omega) dX2_init_19 (fun q4 => ?_)
  refine zb_eq (ws' := [(h0, .inr (2, [.ref q1, .null, .null, .null, .null, .null, .null, .null, .null, .null, .null, .null, .int 0, .int 0, .int 0, .int 0])), (q1, .inr (5, [.ref q2])), (q2, .inl (E.2.2.1 0, 3000, .inl (fun _ => 0))), (q4, .inr (5, [.null]))]) rfl ?_
  refine zb_num (k' := 3) (n' := 3002) (by decide) (by decide) ?_
  refine zb_dup dX2_init_22 rfl ?_
  refine zb_sipush (v := 3000) dX2_init_23 (by decide) ?_
  refine zb_call (con_X5 (E := E) q4 3000 3000 (by decide) (by decide) (by decide)) yy_X5_init rfl yi_X5_init li_X2_11 (by omega) rfl rfl (Nat.le_of_ble_eq_true rfl) [3] [0, 1, 2] rfl rfl (by decide) (by decide) (by decide) (by omega) (by omega) dX2_init_26 (fun w1 hw6 => ?_)
  obtain ⟨q5, rfl⟩ := hw6
  refine zb_eq (ws' := [(h0, .inr (2, [.ref q1, .null, .null, .null, .null, .null, .null, .null, .null, .null, .null, .null, .int 0, .int 0, .int 0, .int 0])), (q1, .inr (5, [.ref q2])), (q2, .inl (E.2.2.1 0, 3000, .inl (fun _ => 0))), (q4, .inr (5, [.ref q5])), (q5, .inl (E.2.2.1 0, 3000, .inl (fun _ => 0)))]) rfl ?_
  refine zb_num (k' := 4) (n' := 6002) (by decide) (by decide) ?_
  refine zb_putF (q0 := 0) pf_X2_20 rfl (Nat.le_of_ble_eq_true rfl) dX2_init_29 ?_
  refine zb_eq (ws' := [(h0, .inr (2, [.ref q1, .ref q4, .null, .null, .null, .null, .null, .null, .null, .null, .null, .null, .int 0, .int 0, .int 0, .int 0])), (q1, .inr (5, [.ref q2])), (q2, .inl (E.2.2.1 0, 3000, .inl (fun _ => 0))), (q4, .inr (5, [.ref q5])), (q5, .inl (E.2.2.1 0, 3000, .inl (fun _ => 0)))]) rfl ?_
  refine zb_num (k' := 4) (n' := 6002) (by decide) (by decide) ?_
  refine zb_aload_n 0 dX2_init_32 rfl rfl ?_
  refine zb_new mk_X2_9 (by omega) (by omega) dX2_init_33 (fun q7 => ?_)
  refine zb_eq (ws' := [(h0, .inr (2, [.ref q1, .ref q4, .null, .null, .null, .null, .null, .null, .null, .null, .null, .null, .int 0, .int 0, .int 0, .int 0])), (q1, .inr (5, [.ref q2])), (q2, .inl (E.2.2.1 0, 3000, .inl (fun _ => 0))), (q4, .inr (5, [.ref q5])), (q5, .inl (E.2.2.1 0, 3000, .inl (fun _ => 0))), (q7, .inr (5, [.null]))]) rfl ?_
  refine zb_num (k' := 5) (n' := 6003) (by decide) (by decide) ?_
  refine zb_dup dX2_init_36 rfl ?_
  refine zb_sipush (v := 3000) dX2_init_37 (by decide) ?_
  refine zb_call (con_X5 (E := E) q7 3000 3000 (by decide) (by decide) (by decide)) yy_X5_init rfl yi_X5_init li_X2_11 (by omega) rfl rfl (Nat.le_of_ble_eq_true rfl) [5] [0, 1, 2, 3, 4] rfl rfl (by decide) (by decide) (by decide) (by omega) (by omega) dX2_init_40 (fun w1 hw9 => ?_)
  obtain ⟨q8, rfl⟩ := hw9
  refine zb_eq (ws' := [(h0, .inr (2, [.ref q1, .ref q4, .null, .null, .null, .null, .null, .null, .null, .null, .null, .null, .int 0, .int 0, .int 0, .int 0])), (q1, .inr (5, [.ref q2])), (q2, .inl (E.2.2.1 0, 3000, .inl (fun _ => 0))), (q4, .inr (5, [.ref q5])), (q5, .inl (E.2.2.1 0, 3000, .inl (fun _ => 0))), (q7, .inr (5, [.ref q8])), (q8, .inl (E.2.2.1 0, 3000, .inl (fun _ => 0)))]) rfl ?_
  refine zb_num (k' := 6) (n' := 9003) (by decide) (by decide) ?_
  refine zb_putF (q0 := 0) pf_X2_23 rfl (Nat.le_of_ble_eq_true rfl) dX2_init_43 ?_
  refine zb_eq (ws' := [(h0, .inr (2, [.ref q1, .ref q4, .ref q7, .null, .null, .null, .null, .null, .null, .null, .null, .null, .int 0, .int 0, .int 0, .int 0])), (q1, .inr (5, [.ref q2])), (q2, .inl (E.2.2.1 0, 3000, .inl (fun _ => 0))), (q4, .inr (5, [.ref q5])), (q5, .inl (E.2.2.1 0, 3000, .inl (fun _ => 0))), (q7, .inr (5, [.ref q8])), (q8, .inl (E.2.2.1 0, 3000, .inl (fun _ => 0)))]) rfl ?_
  refine zb_num (k' := 6) (n' := 9003) (by decide) (by decide) ?_
  refine zb_aload_n 0 dX2_init_46 rfl rfl ?_
  refine zb_new mk_X2_9 (by omega) (by omega) dX2_init_47 (fun q10 => ?_)
  refine zb_eq (ws' := [(h0, .inr (2, [.ref q1, .ref q4, .ref q7, .null, .null, .null, .null, .null, .null, .null, .null, .null, .int 0, .int 0, .int 0, .int 0])), (q1, .inr (5, [.ref q2])), (q2, .inl (E.2.2.1 0, 3000, .inl (fun _ => 0))), (q4, .inr (5, [.ref q5])), (q5, .inl (E.2.2.1 0, 3000, .inl (fun _ => 0))), (q7, .inr (5, [.ref q8])), (q8, .inl (E.2.2.1 0, 3000, .inl (fun _ => 0))), (q10, .inr (5, [.null]))]) rfl ?_
  refine zb_num (k' := 7) (n' := 9004) (by decide) (by decide) ?_
  refine zb_dup dX2_init_50 rfl ?_
  refine zb_sipush (v := 1600) dX2_init_51 (by decide) ?_
  refine zb_call (con_X5 (E := E) q10 1600 1600 (by decide) (by decide) (by decide)) yy_X5_init rfl yi_X5_init li_X2_11 (by omega) rfl rfl (Nat.le_of_ble_eq_true rfl) [7] [0, 1, 2, 3, 4, 5, 6] rfl rfl (by decide) (by decide) (by decide) (by omega) (by omega) dX2_init_54 (fun w1 hw12 => ?_)
  obtain ⟨q11, rfl⟩ := hw12
  refine zb_eq (ws' := [(h0, .inr (2, [.ref q1, .ref q4, .ref q7, .null, .null, .null, .null, .null, .null, .null, .null, .null, .int 0, .int 0, .int 0, .int 0])), (q1, .inr (5, [.ref q2])), (q2, .inl (E.2.2.1 0, 3000, .inl (fun _ => 0))), (q4, .inr (5, [.ref q5])), (q5, .inl (E.2.2.1 0, 3000, .inl (fun _ => 0))), (q7, .inr (5, [.ref q8])), (q8, .inl (E.2.2.1 0, 3000, .inl (fun _ => 0))), (q10, .inr (5, [.ref q11])), (q11, .inl (E.2.2.1 0, 1600, .inl (fun _ => 0)))]) rfl ?_
  refine zb_num (k' := 8) (n' := 10604) (by decide) (by decide) ?_
  refine zb_putF (q0 := 0) pf_X2_26 rfl (Nat.le_of_ble_eq_true rfl) dX2_init_57 ?_
  refine zb_eq (ws' := [(h0, .inr (2, [.ref q1, .ref q4, .ref q7, .ref q10, .null, .null, .null, .null, .null, .null, .null, .null, .int 0, .int 0, .int 0, .int 0])), (q1, .inr (5, [.ref q2])), (q2, .inl (E.2.2.1 0, 3000, .inl (fun _ => 0))), (q4, .inr (5, [.ref q5])), (q5, .inl (E.2.2.1 0, 3000, .inl (fun _ => 0))), (q7, .inr (5, [.ref q8])), (q8, .inl (E.2.2.1 0, 3000, .inl (fun _ => 0))), (q10, .inr (5, [.ref q11])), (q11, .inl (E.2.2.1 0, 1600, .inl (fun _ => 0)))]) rfl ?_
  refine zb_num (k' := 8) (n' := 10604) (by decide) (by decide) ?_
  refine zb_aload_n 0 dX2_init_60 rfl rfl ?_
  refine zb_new mk_X2_9 (by omega) (by omega) dX2_init_61 (fun q13 => ?_)
  refine zb_eq (ws' := [(h0, .inr (2, [.ref q1, .ref q4, .ref q7, .ref q10, .null, .null, .null, .null, .null, .null, .null, .null, .int 0, .int 0, .int 0, .int 0])), (q1, .inr (5, [.ref q2])), (q2, .inl (E.2.2.1 0, 3000, .inl (fun _ => 0))), (q4, .inr (5, [.ref q5])), (q5, .inl (E.2.2.1 0, 3000, .inl (fun _ => 0))), (q7, .inr (5, [.ref q8])), (q8, .inl (E.2.2.1 0, 3000, .inl (fun _ => 0))), (q10, .inr (5, [.ref q11])), (q11, .inl (E.2.2.1 0, 1600, .inl (fun _ => 0))), (q13, .inr (5, [.null]))]) rfl ?_
  refine zb_num (k' := 9) (n' := 10605) (by decide) (by decide) ?_
  refine zb_dup dX2_init_64 rfl ?_
  refine zb_sipush (v := 1600) dX2_init_65 (by decide) ?_
  refine zb_call (con_X5 (E := E) q13 1600 1600 (by decide) (by decide) (by decide)) yy_X5_init rfl yi_X5_init li_X2_11 (by omega) rfl rfl (Nat.le_of_ble_eq_true rfl) [9] [0, 1, 2, 3, 4, 5, 6, 7, 8] rfl rfl (by decide) (by decide) (by decide) (by omega) (by omega) dX2_init_68 (fun w1 hw15 => ?_)
  obtain ⟨q14, rfl⟩ := hw15
  refine zb_eq (ws' := [(h0, .inr (2, [.ref q1, .ref q4, .ref q7, .ref q10, .null, .null, .null, .null, .null, .null, .null, .null, .int 0, .int 0, .int 0, .int 0])), (q1, .inr (5, [.ref q2])), (q2, .inl (E.2.2.1 0, 3000, .inl (fun _ => 0))), (q4, .inr (5, [.ref q5])), (q5, .inl (E.2.2.1 0, 3000, .inl (fun _ => 0))), (q7, .inr (5, [.ref q8])), (q8, .inl (E.2.2.1 0, 3000, .inl (fun _ => 0))), (q10, .inr (5, [.ref q11])), (q11, .inl (E.2.2.1 0, 1600, .inl (fun _ => 0))), (q13, .inr (5, [.ref q14])), (q14, .inl (E.2.2.1 0, 1600, .inl (fun _ => 0)))]) rfl ?_
  refine zb_num (k' := 10) (n' := 12205) (by decide) (by decide) ?_
  refine zb_putF (q0 := 0) pf_X2_29 rfl (Nat.le_of_ble_eq_true rfl) dX2_init_71 ?_
  refine zb_eq (ws' := [(h0, .inr (2, [.ref q1, .ref q4, .ref q7, .ref q10, .ref q13, .null, .null, .null, .null, .null, .null, .null, .int 0, .int 0, .int 0, .int 0])), (q1, .inr (5, [.ref q2])), (q2, .inl (E.2.2.1 0, 3000, .inl (fun _ => 0))), (q4, .inr (5, [.ref q5])), (q5, .inl (E.2.2.1 0, 3000, .inl (fun _ => 0))), (q7, .inr (5, [.ref q8])), (q8, .inl (E.2.2.1 0, 3000, .inl (fun _ => 0))), (q10, .inr (5, [.ref q11])), (q11, .inl (E.2.2.1 0, 1600, .inl (fun _ => 0))), (q13, .inr (5, [.ref q14])), (q14, .inl (E.2.2.1 0, 1600, .inl (fun _ => 0)))]) rfl ?_
  refine zb_num (k' := 10) (n' := 12205) (by decide) (by decide) ?_
  refine zb_aload_n 0 dX2_init_74 rfl rfl ?_
  refine zb_new mk_X2_9 (by omega) (by omega) dX2_init_75 (fun q16 => ?_)
  refine zb_eq (ws' := [(h0, .inr (2, [.ref q1, .ref q4, .ref q7, .ref q10, .ref q13, .null, .null, .null, .null, .null, .null, .null, .int 0, .int 0, .int 0, .int 0])), (q1, .inr (5, [.ref q2])), (q2, .inl (E.2.2.1 0, 3000, .inl (fun _ => 0))), (q4, .inr (5, [.ref q5])), (q5, .inl (E.2.2.1 0, 3000, .inl (fun _ => 0))), (q7, .inr (5, [.ref q8])), (q8, .inl (E.2.2.1 0, 3000, .inl (fun _ => 0))), (q10, .inr (5, [.ref q11])), (q11, .inl (E.2.2.1 0, 1600, .inl (fun _ => 0))), (q13, .inr (5, [.ref q14])), (q14, .inl (E.2.2.1 0, 1600, .inl (fun _ => 0))), (q16, .inr (5, [.null]))]) rfl ?_
  refine zb_num (k' := 11) (n' := 12206) (by decide) (by decide) ?_
  refine zb_dup dX2_init_78 rfl ?_
  refine zb_sipush (v := 1600) dX2_init_79 (by decide) ?_
  refine zb_call (con_X5 (E := E) q16 1600 1600 (by decide) (by decide) (by decide)) yy_X5_init rfl yi_X5_init li_X2_11 (by omega) rfl rfl (Nat.le_of_ble_eq_true rfl) [11] [0, 1, 2, 3, 4, 5, 6, 7, 8, 9, 10] rfl rfl (by decide) (by decide) (by decide) (by omega) (by omega) dX2_init_82 (fun w1 hw18 => ?_)
  obtain ⟨q17, rfl⟩ := hw18
  refine zb_eq (ws' := [(h0, .inr (2, [.ref q1, .ref q4, .ref q7, .ref q10, .ref q13, .null, .null, .null, .null, .null, .null, .null, .int 0, .int 0, .int 0, .int 0])), (q1, .inr (5, [.ref q2])), (q2, .inl (E.2.2.1 0, 3000, .inl (fun _ => 0))), (q4, .inr (5, [.ref q5])), (q5, .inl (E.2.2.1 0, 3000, .inl (fun _ => 0))), (q7, .inr (5, [.ref q8])), (q8, .inl (E.2.2.1 0, 3000, .inl (fun _ => 0))), (q10, .inr (5, [.ref q11])), (q11, .inl (E.2.2.1 0, 1600, .inl (fun _ => 0))), (q13, .inr (5, [.ref q14])), (q14, .inl (E.2.2.1 0, 1600, .inl (fun _ => 0))), (q16, .inr (5, [.ref q17])), (q17, .inl (E.2.2.1 0, 1600, .inl (fun _ => 0)))]) rfl ?_
  refine zb_num (k' := 12) (n' := 13806) (by decide) (by decide) ?_
  refine zb_putF (q0 := 0) pf_X2_32 rfl (Nat.le_of_ble_eq_true rfl) dX2_init_85 ?_
  refine zb_eq (ws' := [(h0, .inr (2, [.ref q1, .ref q4, .ref q7, .ref q10, .ref q13, .ref q16, .null, .null, .null, .null, .null, .null, .int 0, .int 0, .int 0, .int 0])), (q1, .inr (5, [.ref q2])), (q2, .inl (E.2.2.1 0, 3000, .inl (fun _ => 0))), (q4, .inr (5, [.ref q5])), (q5, .inl (E.2.2.1 0, 3000, .inl (fun _ => 0))), (q7, .inr (5, [.ref q8])), (q8, .inl (E.2.2.1 0, 3000, .inl (fun _ => 0))), (q10, .inr (5, [.ref q11])), (q11, .inl (E.2.2.1 0, 1600, .inl (fun _ => 0))), (q13, .inr (5, [.ref q14])), (q14, .inl (E.2.2.1 0, 1600, .inl (fun _ => 0))), (q16, .inr (5, [.ref q17])), (q17, .inl (E.2.2.1 0, 1600, .inl (fun _ => 0)))]) rfl ?_
  refine zb_num (k' := 12) (n' := 13806) (by decide) (by decide) ?_
  refine zb_aload_n 0 dX2_init_88 rfl rfl ?_
  refine zb_new mk_X2_9 (by omega) (by omega) dX2_init_89 (fun q19 => ?_)
  refine zb_eq (ws' := [(h0, .inr (2, [.ref q1, .ref q4, .ref q7, .ref q10, .ref q13, .ref q16, .null, .null, .null, .null, .null, .null, .int 0, .int 0, .int 0, .int 0])), (q1, .inr (5, [.ref q2])), (q2, .inl (E.2.2.1 0, 3000, .inl (fun _ => 0))), (q4, .inr (5, [.ref q5])), (q5, .inl (E.2.2.1 0, 3000, .inl (fun _ => 0))), (q7, .inr (5, [.ref q8])), (q8, .inl (E.2.2.1 0, 3000, .inl (fun _ => 0))), (q10, .inr (5, [.ref q11])), (q11, .inl (E.2.2.1 0, 1600, .inl (fun _ => 0))), (q13, .inr (5, [.ref q14])), (q14, .inl (E.2.2.1 0, 1600, .inl (fun _ => 0))), (q16, .inr (5, [.ref q17])), (q17, .inl (E.2.2.1 0, 1600, .inl (fun _ => 0))), (q19, .inr (5, [.null]))]) rfl ?_
  refine zb_num (k' := 13) (n' := 13807) (by decide) (by decide) ?_
  refine zb_dup dX2_init_92 rfl ?_
  refine zb_sipush (v := 400) dX2_init_93 (by decide) ?_
  refine zb_call (con_X5 (E := E) q19 400 400 (by decide) (by decide) (by decide)) yy_X5_init rfl yi_X5_init li_X2_11 (by omega) rfl rfl (Nat.le_of_ble_eq_true rfl) [13] [0, 1, 2, 3, 4, 5, 6, 7, 8, 9, 10, 11, 12] rfl rfl (by decide) (by decide) (by decide) (by omega) (by omega) dX2_init_96 (fun w1 hw21 => ?_)
  obtain ⟨q20, rfl⟩ := hw21
  refine zb_eq (ws' := [(h0, .inr (2, [.ref q1, .ref q4, .ref q7, .ref q10, .ref q13, .ref q16, .null, .null, .null, .null, .null, .null, .int 0, .int 0, .int 0, .int 0])), (q1, .inr (5, [.ref q2])), (q2, .inl (E.2.2.1 0, 3000, .inl (fun _ => 0))), (q4, .inr (5, [.ref q5])), (q5, .inl (E.2.2.1 0, 3000, .inl (fun _ => 0))), (q7, .inr (5, [.ref q8])), (q8, .inl (E.2.2.1 0, 3000, .inl (fun _ => 0))), (q10, .inr (5, [.ref q11])), (q11, .inl (E.2.2.1 0, 1600, .inl (fun _ => 0))), (q13, .inr (5, [.ref q14])), (q14, .inl (E.2.2.1 0, 1600, .inl (fun _ => 0))), (q16, .inr (5, [.ref q17])), (q17, .inl (E.2.2.1 0, 1600, .inl (fun _ => 0))), (q19, .inr (5, [.ref q20])), (q20, .inl (E.2.2.1 0, 400, .inl (fun _ => 0)))]) rfl ?_
  refine zb_num (k' := 14) (n' := 14207) (by decide) (by decide) ?_
  refine zb_putF (q0 := 0) pf_X2_35 rfl (Nat.le_of_ble_eq_true rfl) dX2_init_99 ?_
  refine zb_eq (ws' := [(h0, .inr (2, [.ref q1, .ref q4, .ref q7, .ref q10, .ref q13, .ref q16, .ref q19, .null, .null, .null, .null, .null, .int 0, .int 0, .int 0, .int 0])), (q1, .inr (5, [.ref q2])), (q2, .inl (E.2.2.1 0, 3000, .inl (fun _ => 0))), (q4, .inr (5, [.ref q5])), (q5, .inl (E.2.2.1 0, 3000, .inl (fun _ => 0))), (q7, .inr (5, [.ref q8])), (q8, .inl (E.2.2.1 0, 3000, .inl (fun _ => 0))), (q10, .inr (5, [.ref q11])), (q11, .inl (E.2.2.1 0, 1600, .inl (fun _ => 0))), (q13, .inr (5, [.ref q14])), (q14, .inl (E.2.2.1 0, 1600, .inl (fun _ => 0))), (q16, .inr (5, [.ref q17])), (q17, .inl (E.2.2.1 0, 1600, .inl (fun _ => 0))), (q19, .inr (5, [.ref q20])), (q20, .inl (E.2.2.1 0, 400, .inl (fun _ => 0)))]) rfl ?_
  refine zb_num (k' := 14) (n' := 14207) (by decide) (by decide) ?_
  refine zb_aload_n 0 dX2_init_102 rfl rfl ?_
  refine zb_new mk_X2_9 (by omega) (by omega) dX2_init_103 (fun q22 => ?_)
  refine zb_eq (ws' := [(h0, .inr (2, [.ref q1, .ref q4, .ref q7, .ref q10, .ref q13, .ref q16, .ref q19, .null, .null, .null, .null, .null, .int 0, .int 0, .int 0, .int 0])), (q1, .inr (5, [.ref q2])), (q2, .inl (E.2.2.1 0, 3000, .inl (fun _ => 0))), (q4, .inr (5, [.ref q5])), (q5, .inl (E.2.2.1 0, 3000, .inl (fun _ => 0))), (q7, .inr (5, [.ref q8])), (q8, .inl (E.2.2.1 0, 3000, .inl (fun _ => 0))), (q10, .inr (5, [.ref q11])), (q11, .inl (E.2.2.1 0, 1600, .inl (fun _ => 0))), (q13, .inr (5, [.ref q14])), (q14, .inl (E.2.2.1 0, 1600, .inl (fun _ => 0))), (q16, .inr (5, [.ref q17])), (q17, .inl (E.2.2.1 0, 1600, .inl (fun _ => 0))), (q19, .inr (5, [.ref q20])), (q20, .inl (E.2.2.1 0, 400, .inl (fun _ => 0))), (q22, .inr (5, [.null]))]) rfl ?_
  refine zb_num (k' := 15) (n' := 14208) (by decide) (by decide) ?_
  refine zb_dup dX2_init_106 rfl ?_
  refine zb_sipush (v := 400) dX2_init_107 (by decide) ?_
  refine zb_call (con_X5 (E := E) q22 400 400 (by decide) (by decide) (by decide)) yy_X5_init rfl yi_X5_init li_X2_11 (by omega) rfl rfl (Nat.le_of_ble_eq_true rfl) [15] [0, 1, 2, 3, 4, 5, 6, 7, 8, 9, 10, 11, 12, 13, 14] rfl rfl (by decide) (by decide) (by decide) (by omega) (by omega) dX2_init_110 (fun w1 hw24 => ?_)
  obtain ⟨q23, rfl⟩ := hw24
  refine zb_eq (ws' := [(h0, .inr (2, [.ref q1, .ref q4, .ref q7, .ref q10, .ref q13, .ref q16, .ref q19, .null, .null, .null, .null, .null, .int 0, .int 0, .int 0, .int 0])), (q1, .inr (5, [.ref q2])), (q2, .inl (E.2.2.1 0, 3000, .inl (fun _ => 0))), (q4, .inr (5, [.ref q5])), (q5, .inl (E.2.2.1 0, 3000, .inl (fun _ => 0))), (q7, .inr (5, [.ref q8])), (q8, .inl (E.2.2.1 0, 3000, .inl (fun _ => 0))), (q10, .inr (5, [.ref q11])), (q11, .inl (E.2.2.1 0, 1600, .inl (fun _ => 0))), (q13, .inr (5, [.ref q14])), (q14, .inl (E.2.2.1 0, 1600, .inl (fun _ => 0))), (q16, .inr (5, [.ref q17])), (q17, .inl (E.2.2.1 0, 1600, .inl (fun _ => 0))), (q19, .inr (5, [.ref q20])), (q20, .inl (E.2.2.1 0, 400, .inl (fun _ => 0))), (q22, .inr (5, [.ref q23])), (q23, .inl (E.2.2.1 0, 400, .inl (fun _ => 0)))]) rfl ?_
  refine zb_num (k' := 16) (n' := 14608) (by decide) (by decide) ?_
  refine zb_putF (q0 := 0) pf_X2_38 rfl (Nat.le_of_ble_eq_true rfl) dX2_init_113 ?_
  refine zb_eq (ws' := [(h0, .inr (2, [.ref q1, .ref q4, .ref q7, .ref q10, .ref q13, .ref q16, .ref q19, .ref q22, .null, .null, .null, .null, .int 0, .int 0, .int 0, .int 0])), (q1, .inr (5, [.ref q2])), (q2, .inl (E.2.2.1 0, 3000, .inl (fun _ => 0))), (q4, .inr (5, [.ref q5])), (q5, .inl (E.2.2.1 0, 3000, .inl (fun _ => 0))), (q7, .inr (5, [.ref q8])), (q8, .inl (E.2.2.1 0, 3000, .inl (fun _ => 0))), (q10, .inr (5, [.ref q11])), (q11, .inl (E.2.2.1 0, 1600, .inl (fun _ => 0))), (q13, .inr (5, [.ref q14])), (q14, .inl (E.2.2.1 0, 1600, .inl (fun _ => 0))), (q16, .inr (5, [.ref q17])), (q17, .inl (E.2.2.1 0, 1600, .inl (fun _ => 0))), (q19, .inr (5, [.ref q20])), (q20, .inl (E.2.2.1 0, 400, .inl (fun _ => 0))), (q22, .inr (5, [.ref q23])), (q23, .inl (E.2.2.1 0, 400, .inl (fun _ => 0)))]) rfl ?_
  refine zb_num (k' := 16) (n' := 14608) (by decide) (by decide) ?_
  refine zb_aload_n 0 dX2_init_116 rfl rfl ?_
  refine zb_new mk_X2_9 (by omega) (by omega) dX2_init_117 (fun q25 => ?_)
  refine zb_eq (ws' := [(h0, .inr (2, [.ref q1, .ref q4, .ref q7, .ref q10, .ref q13, .ref q16, .ref q19, .ref q22, .null, .null, .null, .null, .int 0, .int 0, .int 0, .int 0])), (q1, .inr (5, [.ref q2])), (q2, .inl (E.2.2.1 0, 3000, .inl (fun _ => 0))), (q4, .inr (5, [.ref q5])), (q5, .inl (E.2.2.1 0, 3000, .inl (fun _ => 0))), (q7, .inr (5, [.ref q8])), (q8, .inl (E.2.2.1 0, 3000, .inl (fun _ => 0))), (q10, .inr (5, [.ref q11])), (q11, .inl (E.2.2.1 0, 1600, .inl (fun _ => 0))), (q13, .inr (5, [.ref q14])), (q14, .inl (E.2.2.1 0, 1600, .inl (fun _ => 0))), (q16, .inr (5, [.ref q17])), (q17, .inl (E.2.2.1 0, 1600, .inl (fun _ => 0))), (q19, .inr (5, [.ref q20])), (q20, .inl (E.2.2.1 0, 400, .inl (fun _ => 0))), (q22, .inr (5, [.ref q23])), (q23, .inl (E.2.2.1 0, 400, .inl (fun _ => 0))), (q25, .inr (5, [.null]))]) rfl ?_
  refine zb_num (k' := 17) (n' := 14609) (by decide) (by decide) ?_
  refine zb_dup dX2_init_120 rfl ?_
  refine zb_sipush (v := 1600) dX2_init_121 (by decide) ?_
  refine zb_call (con_X5 (E := E) q25 1600 1600 (by decide) (by decide) (by decide)) yy_X5_init rfl yi_X5_init li_X2_11 (by omega) rfl rfl (Nat.le_of_ble_eq_true rfl) [17] [0, 1, 2, 3, 4, 5, 6, 7, 8, 9, 10, 11, 12, 13, 14, 15, 16] rfl rfl (by decide) (by decide) (by decide) (by omega) (by omega) dX2_init_124 (fun w1 hw27 => ?_)
  obtain ⟨q26, rfl⟩ := hw27
  refine zb_eq (ws' := [(h0, .inr (2, [.ref q1, .ref q4, .ref q7, .ref q10, .ref q13, .ref q16, .ref q19, .ref q22, .null, .null, .null, .null, .int 0, .int 0, .int 0, .int 0])), (q1, .inr (5, [.ref q2])), (q2, .inl (E.2.2.1 0, 3000, .inl (fun _ => 0))), (q4, .inr (5, [.ref q5])), (q5, .inl (E.2.2.1 0, 3000, .inl (fun _ => 0))), (q7, .inr (5, [.ref q8])), (q8, .inl (E.2.2.1 0, 3000, .inl (fun _ => 0))), (q10, .inr (5, [.ref q11])), (q11, .inl (E.2.2.1 0, 1600, .inl (fun _ => 0))), (q13, .inr (5, [.ref q14])), (q14, .inl (E.2.2.1 0, 1600, .inl (fun _ => 0))), (q16, .inr (5, [.ref q17])), (q17, .inl (E.2.2.1 0, 1600, .inl (fun _ => 0))), (q19, .inr (5, [.ref q20])), (q20, .inl (E.2.2.1 0, 400, .inl (fun _ => 0))), (q22, .inr (5, [.ref q23])), (q23, .inl (E.2.2.1 0, 400, .inl (fun _ => 0))), (q25, .inr (5, [.ref q26])), (q26, .inl (E.2.2.1 0, 1600, .inl (fun _ => 0)))]) rfl ?_
  refine zb_num (k' := 18) (n' := 16209) (by decide) (by decide) ?_
  refine zb_putF (q0 := 0) pf_X2_41 rfl (Nat.le_of_ble_eq_true rfl) dX2_init_127 ?_
  refine zb_eq (ws' := [(h0, .inr (2, [.ref q1, .ref q4, .ref q7, .ref q10, .ref q13, .ref q16, .ref q19, .ref q22, .ref q25, .null, .null, .null, .int 0, .int 0, .int 0, .int 0])), (q1, .inr (5, [.ref q2])), (q2, .inl (E.2.2.1 0, 3000, .inl (fun _ => 0))), (q4, .inr (5, [.ref q5])), (q5, .inl (E.2.2.1 0, 3000, .inl (fun _ => 0))), (q7, .inr (5, [.ref q8])), (q8, .inl (E.2.2.1 0, 3000, .inl (fun _ => 0))), (q10, .inr (5, [.ref q11])), (q11, .inl (E.2.2.1 0, 1600, .inl (fun _ => 0))), (q13, .inr (5, [.ref q14])), (q14, .inl (E.2.2.1 0, 1600, .inl (fun _ => 0))), (q16, .inr (5, [.ref q17])), (q17, .inl (E.2.2.1 0, 1600, .inl (fun _ => 0))), (q19, .inr (5, [.ref q20])), (q20, .inl (E.2.2.1 0, 400, .inl (fun _ => 0))), (q22, .inr (5, [.ref q23])), (q23, .inl (E.2.2.1 0, 400, .inl (fun _ => 0))), (q25, .inr (5, [.ref q26])), (q26, .inl (E.2.2.1 0, 1600, .inl (fun _ => 0)))]) rfl ?_
  refine zb_num (k' := 18) (n' := 16209) (by decide) (by decide) ?_
  refine zb_aload_n 0 dX2_init_130 rfl rfl ?_
  refine zb_new mk_X2_9 (by omega) (by omega) dX2_init_131 (fun q28 => ?_)
  refine zb_eq (ws' := [(h0, .inr (2, [.ref q1, .ref q4, .ref q7, .ref q10, .ref q13, .ref q16, .ref q19, .ref q22, .ref q25, .null, .null, .null, .int 0, .int 0, .int 0, .int 0])), (q1, .inr (5, [.ref q2])), (q2, .inl (E.2.2.1 0, 3000, .inl (fun _ => 0))), (q4, .inr (5, [.ref q5])), (q5, .inl (E.2.2.1 0, 3000, .inl (fun _ => 0))), (q7, .inr (5, [.ref q8])), (q8, .inl (E.2.2.1 0, 3000, .inl (fun _ => 0))), (q10, .inr (5, [.ref q11])), (q11, .inl (E.2.2.1 0, 1600, .inl (fun _ => 0))), (q13, .inr (5, [.ref q14])), (q14, .inl (E.2.2.1 0, 1600, .inl (fun _ => 0))), (q16, .inr (5, [.ref q17])), (q17, .inl (E.2.2.1 0, 1600, .inl (fun _ => 0))), (q19, .inr (5, [.ref q20])), (q20, .inl (E.2.2.1 0, 400, .inl (fun _ => 0))), (q22, .inr (5, [.ref q23])), (q23, .inl (E.2.2.1 0, 400, .inl (fun _ => 0))), (q25, .inr (5, [.ref q26])), (q26, .inl (E.2.2.1 0, 1600, .inl (fun _ => 0))), (q28, .inr (5, [.null]))]) rfl ?_
  refine zb_num (k' := 19) (n' := 16210) (by decide) (by decide) ?_
  refine zb_dup dX2_init_134 rfl ?_
  refine zb_sipush (v := 400) dX2_init_135 (by decide) ?_
  refine zb_call (con_X5 (E := E) q28 400 400 (by decide) (by decide) (by decide)) yy_X5_init rfl yi_X5_init li_X2_11 (by omega) rfl rfl (Nat.le_of_ble_eq_true rfl) [19] [0, 1, 2, 3, 4, 5, 6, 7, 8, 9, 10, 11, 12, 13, 14, 15, 16, 17, 18] rfl rfl (by decide) (by decide) (by decide) (by omega) (by omega) dX2_init_138 (fun w1 hw30 => ?_)
  obtain ⟨q29, rfl⟩ := hw30
  refine zb_eq (ws' := [(h0, .inr (2, [.ref q1, .ref q4, .ref q7, .ref q10, .ref q13, .ref q16, .ref q19, .ref q22, .ref q25, .null, .null, .null, .int 0, .int 0, .int 0, .int 0])), (q1, .inr (5, [.ref q2])), (q2, .inl (E.2.2.1 0, 3000, .inl (fun _ => 0))), (q4, .inr (5, [.ref q5])), (q5, .inl (E.2.2.1 0, 3000, .inl (fun _ => 0))), (q7, .inr (5, [.ref q8])), (q8, .inl (E.2.2.1 0, 3000, .inl (fun _ => 0))), (q10, .inr (5, [.ref q11])), (q11, .inl (E.2.2.1 0, 1600, .inl (fun _ => 0))), (q13, .inr (5, [.ref q14])), (q14, .inl (E.2.2.1 0, 1600, .inl (fun _ => 0))), (q16, .inr (5, [.ref q17])), (q17, .inl (E.2.2.1 0, 1600, .inl (fun _ => 0))), (q19, .inr (5, [.ref q20])), (q20, .inl (E.2.2.1 0, 400, .inl (fun _ => 0))), (q22, .inr (5, [.ref q23])), (q23, .inl (E.2.2.1 0, 400, .inl (fun _ => 0))), (q25, .inr (5, [.ref q26])), (q26, .inl (E.2.2.1 0, 1600, .inl (fun _ => 0))), (q28, .inr (5, [.ref q29])), (q29, .inl (E.2.2.1 0, 400, .inl (fun _ => 0)))]) rfl ?_
  refine zb_num (k' := 20) (n' := 16610) (by decide) (by decide) ?_
  refine zb_putF (q0 := 0) pf_X2_44 rfl (Nat.le_of_ble_eq_true rfl) dX2_init_141 ?_
  refine zb_eq (ws' := [(h0, .inr (2, [.ref q1, .ref q4, .ref q7, .ref q10, .ref q13, .ref q16, .ref q19, .ref q22, .ref q25, .ref q28, .null, .null, .int 0, .int 0, .int 0, .int 0])), (q1, .inr (5, [.ref q2])), (q2, .inl (E.2.2.1 0, 3000, .inl (fun _ => 0))), (q4, .inr (5, [.ref q5])), (q5, .inl (E.2.2.1 0, 3000, .inl (fun _ => 0))), (q7, .inr (5, [.ref q8])), (q8, .inl (E.2.2.1 0, 3000, .inl (fun _ => 0))), (q10, .inr (5, [.ref q11])), (q11, .inl (E.2.2.1 0, 1600, .inl (fun _ => 0))), (q13, .inr (5, [.ref q14])), (q14, .inl (E.2.2.1 0, 1600, .inl (fun _ => 0))), (q16, .inr (5, [.ref q17])), (q17, .inl (E.2.2.1 0, 1600, .inl (fun _ => 0))), (q19, .inr (5, [.ref q20])), (q20, .inl (E.2.2.1 0, 400, .inl (fun _ => 0))), (q22, .inr (5, [.ref q23])), (q23, .inl (E.2.2.1 0, 400, .inl (fun _ => 0))), (q25, .inr (5, [.ref q26])), (q26, .inl (E.2.2.1 0, 1600, .inl (fun _ => 0))), (q28, .inr (5, [.ref q29])), (q29, .inl (E.2.2.1 0, 400, .inl (fun _ => 0)))]) rfl ?_
  refine zb_num (k' := 20) (n' := 16610) (by decide) (by decide) ?_
  refine zb_aload_n 0 dX2_init_144 rfl rfl ?_
  refine zb_new mk_X2_9 (by omega) (by omega) dX2_init_145 (fun q31 => ?_)
  refine zb_eq (ws' := [(h0, .inr (2, [.ref q1, .ref q4, .ref q7, .ref q10, .ref q13, .ref q16, .ref q19, .ref q22, .ref q25, .ref q28, .null, .null, .int 0, .int 0, .int 0, .int 0])), (q1, .inr (5, [.ref q2])), (q2, .inl (E.2.2.1 0, 3000, .inl (fun _ => 0))), (q4, .inr (5, [.ref q5])), (q5, .inl (E.2.2.1 0, 3000, .inl (fun _ => 0))), (q7, .inr (5, [.ref q8])), (q8, .inl (E.2.2.1 0, 3000, .inl (fun _ => 0))), (q10, .inr (5, [.ref q11])), (q11, .inl (E.2.2.1 0, 1600, .inl (fun _ => 0))), (q13, .inr (5, [.ref q14])), (q14, .inl (E.2.2.1 0, 1600, .inl (fun _ => 0))), (q16, .inr (5, [.ref q17])), (q17, .inl (E.2.2.1 0, 1600, .inl (fun _ => 0))), (q19, .inr (5, [.ref q20])), (q20, .inl (E.2.2.1 0, 400, .inl (fun _ => 0))), (q22, .inr (5, [.ref q23])), (q23, .inl (E.2.2.1 0, 400, .inl (fun _ => 0))), (q25, .inr (5, [.ref q26])), (q26, .inl (E.2.2.1 0, 1600, .inl (fun _ => 0))), (q28, .inr (5, [.ref q29])), (q29, .inl (E.2.2.1 0, 400, .inl (fun _ => 0))), (q31, .inr (5, [.null]))]) rfl ?_
  refine zb_num (k' := 21) (n' := 16611) (by decide) (by decide) ?_
  refine zb_dup dX2_init_148 rfl ?_
  refine zb_sipush (v := 6000) dX2_init_149 (by decide) ?_
  refine zb_call (con_X5 (E := E) q31 6000 6000 (by decide) (by decide) (by decide)) yy_X5_init rfl yi_X5_init li_X2_11 (by omega) rfl rfl (Nat.le_of_ble_eq_true rfl) [21] [0, 1, 2, 3, 4, 5, 6, 7, 8, 9, 10, 11, 12, 13, 14, 15, 16, 17, 18, 19, 20] rfl rfl (by decide) (by decide) (by decide) (by omega) (by omega) dX2_init_152 (fun w1 hw33 => ?_)
  obtain ⟨q32, rfl⟩ := hw33
  refine zb_eq (ws' := [(h0, .inr (2, [.ref q1, .ref q4, .ref q7, .ref q10, .ref q13, .ref q16, .ref q19, .ref q22, .ref q25, .ref q28, .null, .null, .int 0, .int 0, .int 0, .int 0])), (q1, .inr (5, [.ref q2])), (q2, .inl (E.2.2.1 0, 3000, .inl (fun _ => 0))), (q4, .inr (5, [.ref q5])), (q5, .inl (E.2.2.1 0, 3000, .inl (fun _ => 0))), (q7, .inr (5, [.ref q8])), (q8, .inl (E.2.2.1 0, 3000, .inl (fun _ => 0))), (q10, .inr (5, [.ref q11])), (q11, .inl (E.2.2.1 0, 1600, .inl (fun _ => 0))), (q13, .inr (5, [.ref q14])), (q14, .inl (E.2.2.1 0, 1600, .inl (fun _ => 0))), (q16, .inr (5, [.ref q17])), (q17, .inl (E.2.2.1 0, 1600, .inl (fun _ => 0))), (q19, .inr (5, [.ref q20])), (q20, .inl (E.2.2.1 0, 400, .inl (fun _ => 0))), (q22, .inr (5, [.ref q23])), (q23, .inl (E.2.2.1 0, 400, .inl (fun _ => 0))), (q25, .inr (5, [.ref q26])), (q26, .inl (E.2.2.1 0, 1600, .inl (fun _ => 0))), (q28, .inr (5, [.ref q29])), (q29, .inl (E.2.2.1 0, 400, .inl (fun _ => 0))), (q31, .inr (5, [.ref q32])), (q32, .inl (E.2.2.1 0, 6000, .inl (fun _ => 0)))]) rfl ?_
  refine zb_num (k' := 22) (n' := 22611) (by decide) (by decide) ?_
  refine zb_putF (q0 := 0) pf_X2_47 rfl (Nat.le_of_ble_eq_true rfl) dX2_init_155 ?_
  refine zb_eq (ws' := [(h0, .inr (2, [.ref q1, .ref q4, .ref q7, .ref q10, .ref q13, .ref q16, .ref q19, .ref q22, .ref q25, .ref q28, .ref q31, .null, .int 0, .int 0, .int 0, .int 0])), (q1, .inr (5, [.ref q2])), (q2, .inl (E.2.2.1 0, 3000, .inl (fun _ => 0))), (q4, .inr (5, [.ref q5])), (q5, .inl (E.2.2.1 0, 3000, .inl (fun _ => 0))), (q7, .inr (5, [.ref q8])), (q8, .inl (E.2.2.1 0, 3000, .inl (fun _ => 0))), (q10, .inr (5, [.ref q11])), (q11, .inl (E.2.2.1 0, 1600, .inl (fun _ => 0))), (q13, .inr (5, [.ref q14])), (q14, .inl (E.2.2.1 0, 1600, .inl (fun _ => 0))), (q16, .inr (5, [.ref q17])), (q17, .inl (E.2.2.1 0, 1600, .inl (fun _ => 0))), (q19, .inr (5, [.ref q20])), (q20, .inl (E.2.2.1 0, 400, .inl (fun _ => 0))), (q22, .inr (5, [.ref q23])), (q23, .inl (E.2.2.1 0, 400, .inl (fun _ => 0))), (q25, .inr (5, [.ref q26])), (q26, .inl (E.2.2.1 0, 1600, .inl (fun _ => 0))), (q28, .inr (5, [.ref q29])), (q29, .inl (E.2.2.1 0, 400, .inl (fun _ => 0))), (q31, .inr (5, [.ref q32])), (q32, .inl (E.2.2.1 0, 6000, .inl (fun _ => 0)))]) rfl ?_
  refine zb_num (k' := 22) (n' := 22611) (by decide) (by decide) ?_
  refine zb_aload_n 0 dX2_init_158 rfl rfl ?_
  refine zb_new mk_X2_9 (by omega) (by omega) dX2_init_159 (fun q34 => ?_)
  refine zb_eq (ws' := [(h0, .inr (2, [.ref q1, .ref q4, .ref q7, .ref q10, .ref q13, .ref q16, .ref q19, .ref q22, .ref q25, .ref q28, .ref q31, .null, .int 0, .int 0, .int 0, .int 0])), (q1, .inr (5, [.ref q2])), (q2, .inl (E.2.2.1 0, 3000, .inl (fun _ => 0))), (q4, .inr (5, [.ref q5])), (q5, .inl (E.2.2.1 0, 3000, .inl (fun _ => 0))), (q7, .inr (5, [.ref q8])), (q8, .inl (E.2.2.1 0, 3000, .inl (fun _ => 0))), (q10, .inr (5, [.ref q11])), (q11, .inl (E.2.2.1 0, 1600, .inl (fun _ => 0))), (q13, .inr (5, [.ref q14])), (q14, .inl (E.2.2.1 0, 1600, .inl (fun _ => 0))), (q16, .inr (5, [.ref q17])), (q17, .inl (E.2.2.1 0, 1600, .inl (fun _ => 0))), (q19, .inr (5, [.ref q20])), (q20, .inl (E.2.2.1 0, 400, .inl (fun _ => 0))), (q22, .inr (5, [.ref q23])), (q23, .inl (E.2.2.1 0, 400, .inl (fun _ => 0))), (q25, .inr (5, [.ref q26])), (q26, .inl (E.2.2.1 0, 1600, .inl (fun _ => 0))), (q28, .inr (5, [.ref q29])), (q29, .inl (E.2.2.1 0, 400, .inl (fun _ => 0))), (q31, .inr (5, [.ref q32])), (q32, .inl (E.2.2.1 0, 6000, .inl (fun _ => 0))), (q34, .inr (5, [.null]))]) rfl ?_
  refine zb_num (k' := 23) (n' := 22612) (by decide) (by decide) ?_
  refine zb_dup dX2_init_162 rfl ?_
  refine zb_sipush (v := 12004) dX2_init_163 (by decide) ?_
  refine zb_call (con_X5 (E := E) q34 12004 12004 (by decide) (by decide) (by decide)) yy_X5_init rfl yi_X5_init li_X2_11 (by omega) rfl rfl (Nat.le_of_ble_eq_true rfl) [23] [0, 1, 2, 3, 4, 5, 6, 7, 8, 9, 10, 11, 12, 13, 14, 15, 16, 17, 18, 19, 20, 21, 22] rfl rfl (by decide) (by decide) (by decide) (by omega) (by omega) dX2_init_166 (fun w1 hw36 => ?_)
  obtain ⟨q35, rfl⟩ := hw36
  refine zb_eq (ws' := [(h0, .inr (2, [.ref q1, .ref q4, .ref q7, .ref q10, .ref q13, .ref q16, .ref q19, .ref q22, .ref q25, .ref q28, .ref q31, .null, .int 0, .int 0, .int 0, .int 0])), (q1, .inr (5, [.ref q2])), (q2, .inl (E.2.2.1 0, 3000, .inl (fun _ => 0))), (q4, .inr (5, [.ref q5])), (q5, .inl (E.2.2.1 0, 3000, .inl (fun _ => 0))), (q7, .inr (5, [.ref q8])), (q8, .inl (E.2.2.1 0, 3000, .inl (fun _ => 0))), (q10, .inr (5, [.ref q11])), (q11, .inl (E.2.2.1 0, 1600, .inl (fun _ => 0))), (q13, .inr (5, [.ref q14])), (q14, .inl (E.2.2.1 0, 1600, .inl (fun _ => 0))), (q16, .inr (5, [.ref q17])), (q17, .inl (E.2.2.1 0, 1600, .inl (fun _ => 0))), (q19, .inr (5, [.ref q20])), (q20, .inl (E.2.2.1 0, 400, .inl (fun _ => 0))), (q22, .inr (5, [.ref q23])), (q23, .inl (E.2.2.1 0, 400, .inl (fun _ => 0))), (q25, .inr (5, [.ref q26])), (q26, .inl (E.2.2.1 0, 1600, .inl (fun _ => 0))), (q28, .inr (5, [.ref q29])), (q29, .inl (E.2.2.1 0, 400, .inl (fun _ => 0))), (q31, .inr (5, [.ref q32])), (q32, .inl (E.2.2.1 0, 6000, .inl (fun _ => 0))), (q34, .inr (5, [.ref q35])), (q35, .inl (E.2.2.1 0, 12004, .inl (fun _ => 0)))]) rfl ?_
  refine zb_num (k' := 24) (n' := 34616) (by decide) (by decide) ?_
  refine zb_putF (q0 := 0) pf_X2_50 rfl (Nat.le_of_ble_eq_true rfl) dX2_init_169 ?_
  refine zb_eq (ws' := [(h0, .inr (2, [.ref q1, .ref q4, .ref q7, .ref q10, .ref q13, .ref q16, .ref q19, .ref q22, .ref q25, .ref q28, .ref q31, .ref q34, .int 0, .int 0, .int 0, .int 0])), (q1, .inr (5, [.ref q2])), (q2, .inl (E.2.2.1 0, 3000, .inl (fun _ => 0))), (q4, .inr (5, [.ref q5])), (q5, .inl (E.2.2.1 0, 3000, .inl (fun _ => 0))), (q7, .inr (5, [.ref q8])), (q8, .inl (E.2.2.1 0, 3000, .inl (fun _ => 0))), (q10, .inr (5, [.ref q11])), (q11, .inl (E.2.2.1 0, 1600, .inl (fun _ => 0))), (q13, .inr (5, [.ref q14])), (q14, .inl (E.2.2.1 0, 1600, .inl (fun _ => 0))), (q16, .inr (5, [.ref q17])), (q17, .inl (E.2.2.1 0, 1600, .inl (fun _ => 0))), (q19, .inr (5, [.ref q20])), (q20, .inl (E.2.2.1 0, 400, .inl (fun _ => 0))), (q22, .inr (5, [.ref q23])), (q23, .inl (E.2.2.1 0, 400, .inl (fun _ => 0))), (q25, .inr (5, [.ref q26])), (q26, .inl (E.2.2.1 0, 1600, .inl (fun _ => 0))), (q28, .inr (5, [.ref q29])), (q29, .inl (E.2.2.1 0, 400, .inl (fun _ => 0))), (q31, .inr (5, [.ref q32])), (q32, .inl (E.2.2.1 0, 6000, .inl (fun _ => 0))), (q34, .inr (5, [.ref q35])), (q35, .inl (E.2.2.1 0, 12004, .inl (fun _ => 0)))]) rfl ?_
  refine zb_num (k' := 24) (n' := 34616) (by decide) (by decide) ?_
  exact zb_vret ⟨q1, q2, q4, q5, q7, q8, q10, q11, q13, q14, q16, q17, q19, q20, q22, q23, q25, q26, q28, q29, q31, q32, q34, q35, rfl⟩ (by omega) (by omega) dX2_init_172
def pw_X3 (E : zE) (h0 : Nat) (w : va_W) : Prop := ∃ q1 q2 q4 q5 q7 q8 q10 q11 q13 q14 q16 q17 : Nat, w = [(h0, .inr (3, [.ref q1, .ref q4, .ref q7, .ref q10, .ref q13, .ref q16, .int 0, .int 0, .int 0])), (q1, .inr (5, [.ref q2])), (q2, .inl (E.2.2.1 0, 3000, .inl (fun _ => 0))), (q4, .inr (5, [.ref q5])), (q5, .inl (E.2.2.1 0, 3000, .inl (fun _ => 0))), (q7, .inr (5, [.ref q8])), (q8, .inl (E.2.2.1 0, 1600, .inl (fun _ => 0))), (q10, .inr (5, [.ref q11])), (q11, .inl (E.2.2.1 0, 1600, .inl (fun _ => 0))), (q13, .inr (5, [.ref q14])), (q14, .inl (E.2.2.1 0, 1600, .inl (fun _ => 0))), (q16, .inr (5, [.ref q17])), (q17, .inl (E.2.2.1 0, 256, .inl (fun _ => 0)))]
theorem dX3_init_0 : decode cX3_init 0 = .ok (.aload_n 0, 1) := by decide +kernel
theorem dX3_init_1 : decode cX3_init 1 = .ok (.invokespecial 3, 3) := by decide +kernel
theorem dX3_init_4 : decode cX3_init 4 = .ok (.aload_n 0, 1) := by decide +kernel
theorem dX3_init_5 : decode cX3_init 5 = .ok (.new 9, 3) := by decide +kernel
theorem dX3_init_8 : decode cX3_init 8 = .ok (.dup, 1) := by decide +kernel
theorem dX3_init_9 : decode cX3_init 9 = .ok (.sipush 3000, 3) := by decide +kernel
theorem dX3_init_12 : decode cX3_init 12 = .ok (.invokespecial 11, 3) := by decide +kernel
theorem dX3_init_15 : decode cX3_init 15 = .ok (.putfield 14, 3) := by decide +kernel
theorem dX3_init_18 : decode cX3_init 18 = .ok (.aload_n 0, 1) := by decide +kernel
theorem dX3_init_19 : decode cX3_init 19 = .ok (.new 9, 3) := by decide +kernel
theorem dX3_init_22 : decode cX3_init 22 = .ok (.dup, 1) := by decide +kernel
theorem dX3_init_23 : decode cX3_init 23 = .ok (.sipush 3000, 3) := by decide +kernel
theorem dX3_init_26 : decode cX3_init 26 = .ok (.invokespecial 11, 3) := by decide +kernel
theorem dX3_init_29 : decode cX3_init 29 = .ok (.putfield 20, 3) := by decide +kernel
theorem dX3_init_32 : decode cX3_init 32 = .ok (.aload_n 0, 1) := by decide +kernel
theorem dX3_init_33 : decode cX3_init 33 = .ok (.new 9, 3) := by decide +kernel
theorem dX3_init_36 : decode cX3_init 36 = .ok (.dup, 1) := by decide +kernel
theorem dX3_init_37 : decode cX3_init 37 = .ok (.sipush 1600, 3) := by decide +kernel
theorem dX3_init_40 : decode cX3_init 40 = .ok (.invokespecial 11, 3) := by decide +kernel
theorem dX3_init_43 : decode cX3_init 43 = .ok (.putfield 23, 3) := by decide +kernel
theorem dX3_init_46 : decode cX3_init 46 = .ok (.aload_n 0, 1) := by decide +kernel
theorem dX3_init_47 : decode cX3_init 47 = .ok (.new 9, 3) := by decide +kernel
theorem dX3_init_50 : decode cX3_init 50 = .ok (.dup, 1) := by decide +kernel
theorem dX3_init_51 : decode cX3_init 51 = .ok (.sipush 1600, 3) := by decide +kernel
theorem dX3_init_54 : decode cX3_init 54 = .ok (.invokespecial 11, 3) := by decide +kernel
theorem dX3_init_57 : decode cX3_init 57 = .ok (.putfield 26, 3) := by decide +kernel
theorem dX3_init_60 : decode cX3_init 60 = .ok (.aload_n 0, 1) := by decide +kernel
theorem dX3_init_61 : decode cX3_init 61 = .ok (.new 9, 3) := by decide +kernel
theorem dX3_init_64 : decode cX3_init 64 = .ok (.dup, 1) := by decide +kernel
theorem dX3_init_65 : decode cX3_init 65 = .ok (.sipush 1600, 3) := by decide +kernel
theorem dX3_init_68 : decode cX3_init 68 = .ok (.invokespecial 11, 3) := by decide +kernel
theorem dX3_init_71 : decode cX3_init 71 = .ok (.putfield 29, 3) := by decide +kernel
theorem dX3_init_74 : decode cX3_init 74 = .ok (.aload_n 0, 1) := by decide +kernel
theorem dX3_init_75 : decode cX3_init 75 = .ok (.new 9, 3) := by decide +kernel
theorem dX3_init_78 : decode cX3_init 78 = .ok (.dup, 1) := by decide +kernel
theorem dX3_init_79 : decode cX3_init 79 = .ok (.sipush 256, 3) := by decide +kernel
theorem dX3_init_82 : decode cX3_init 82 = .ok (.invokespecial 11, 3) := by decide +kernel
theorem dX3_init_85 : decode cX3_init 85 = .ok (.putfield 32, 3) := by decide +kernel
theorem dX3_init_88 : decode cX3_init 88 = .ok (.return_, 1) := by decide +kernel
set_option maxHeartbeats 8000000 in
set_option maxRecDepth 100000 in
theorem con_X3 {E : zE} (h0 : Nat) : zCon E yX3_init cX3_init 1 2 12 11062 [.ref h0] [(h0, .inr (3, [.null, .null, .null, .null, .null, .null, .int 0, .int 0, .int 0]))] (pw_X3 E h0) := by
  refine zCon_of (by decide) rfl (Nat.le_of_ble_eq_true rfl) (fun C A => ?_)
  show zB E C cX3_init RX3 1 2 12 11062 A _ _ 0 0 0 [(0, .ref h0)] []
  refine zb_aload_n 0 dX3_init_0 rfl rfl ?_
  refine zb_obj lo_X3_3 oi1 oi2 (by omega) (Nat.le_of_ble_eq_true rfl) dX3_init_1 ?_
  refine zb_aload_n 0 dX3_init_4 rfl rfl ?_
  refine zb_new mk_X3_9 (by omega) (by omega) dX3_init_5 (fun q1 => ?_)
  refine zb_eq (ws' := [(h0, .inr (3, [.null, .null, .null, .null, .null, .null, .int 0, .int 0, .int 0])), (q1, .inr (5, [.null]))]) rfl ?_
  refine zb_num (k' := 1) (n' := 1) (by decide) (by decide) ?_
  refine zb_dup dX3_init_8 rfl ?_
  refine zb_sipush (v := 3000) dX3_init_9 (by decide) ?_
  refine zb_call (con_X5 (E := E) q1 3000 3000 (by decide) (by decide) (by decide)) yy_X5_init rfl yi_X5_init li_X3_11 (by omega) rfl rfl (Nat.le_of_ble_eq_true rfl) [1] [0] rfl rfl (by decide) (by decide) (by decide) (by omega) (by omega) dX3_init_12 (fun w1 hw3 => ?_)
  obtain ⟨q2, rfl⟩ := hw3
  refine zb_eq (ws' := [(h0, .inr (3, [.null, .null, .null, .null, .null, .null, .int 0, .int 0, .int 0])), (q1, .inr (5, [.ref q2])), (q2, .inl (E.2.2.1 0, 3000, .inl (fun _ => 0)))]) rfl ?_
  refine zb_num (k' := 2) (n' := 3001) (by decide) (by decide) ?_
  refine zb_putF (q0 := 0) pf_X3_14 rfl (Nat.le_of_ble_eq_true rfl) dX3_init_15 ?_
  refine zb_eq (ws' := [(h0, .inr (3, [.ref q1, .null, .null, .null, .null, .null, .int 0, .int 0, .int 0])), (q1, .inr (5, [.ref q2])), (q2, .inl (E.2.2.1 0, 3000, .inl (fun _ => 0)))]) rfl ?_
  refine zb_num (k' := 2) (n' := 3001) (by decide) (by decide) ?_
  refine zb_aload_n 0 dX3_init_18 rfl rfl ?_
  refine zb_new mk_X3_9 (by omega) (by omega) dX3_init_19 (fun q4 => ?_)
  refine zb_eq (ws' := [(h0, .inr (3, [.ref q1, .null, .null, .null, .null, .null, .int 0, .int 0, .int 0])), (q1, .inr (5, [.ref q2])), (q2, .inl (E.2.2.1 0, 3000, .inl (fun _ => 0))), (q4, .inr (5, [.null]))]) rfl ?_
  refine zb_num (k' := 3) (n' := 3002) (by decide) (by decide) ?_
  refine zb_dup dX3_init_22 rfl ?_
  refine zb_sipush (v := 3000) dX3_init_23 (by decide) ?_
  refine zb_call (con_X5 (E := E) q4 3000 3000 (by decide) (by decide) (by decide)) yy_X5_init rfl yi_X5_init li_X3_11 (by omega) rfl rfl (Nat.le_of_ble_eq_true rfl) [3] [0, 1, 2] rfl rfl (by decide) (by decide) (by decide) (by omega) (by omega) dX3_init_26 (fun w1 hw6 => ?_)
  obtain ⟨q5, rfl⟩ := hw6
  refine zb_eq (ws' := [(h0, .inr (3, [.ref q1, .null, .null, .null, .null, .null, .int 0, .int 0, .int 0])), (q1, .inr (5, [.ref q2])), (q2, .inl (E.2.2.1 0, 3000, .inl (fun _ => 0))), (q4, .inr (5, [.ref q5])), (q5, .inl (E.2.2.1 0, 3000, .inl (fun _ => 0)))]) rfl ?_
  refine zb_num (k' := 4) (n' := 6002) (by decide) (by decide) ?_
  refine zb_putF (q0 := 0) pf_X3_20 rfl (Nat.le_of_ble_eq_true rfl) dX3_init_29 ?_
  refine zb_eq (ws' := [(h0, .inr (3, [.ref q1, .ref q4, .null, .null, .null, .null, .int 0, .int 0, .int 0])), (q1, .inr (5, [.ref q2])), (q2, .inl (E.2.2.1 0, 3000, .inl (fun _ => 0))), (q4, .inr (5, [.ref q5])), (q5, .inl (E.2.2.1 0, 3000, .inl (fun _ => 0)))]) rfl ?_
  refine zb_num (k' := 4) (n' := 6002) (by decide) (by decide) ?_
  refine zb_aload_n 0 dX3_init_32 rfl rfl ?_
  refine zb_new mk_X3_9 (by omega) (by omega) dX3_init_33 (fun q7 => ?_)
  refine zb_eq (ws' := [(h0, .inr (3, [.ref q1, .ref q4, .null, .null, .null, .null, .int 0, .int 0, .int 0])), (q1, .inr (5, [.ref q2])), (q2, .inl (E.2.2.1 0, 3000, .inl (fun _ => 0))), (q4, .inr (5, [.ref q5])), (q5, .inl (E.2.2.1 0, 3000, .inl (fun _ => 0))), (q7, .inr (5, [.null]))]) rfl ?_
  refine zb_num (k' := 5) (n' := 6003) (by decide) (by decide) ?_
  refine zb_dup dX3_init_36 rfl ?_
  refine zb_sipush (v := 1600) dX3_init_37 (by decide) ?_
  refine zb_call (con_X5 (E := E) q7 1600 1600 (by decide) (by decide) (by decide)) yy_X5_init rfl yi_X5_init li_X3_11 (by omega) rfl rfl (Nat.le_of_ble_eq_true rfl) [5] [0, 1, 2, 3, 4] rfl rfl (by decide) (by decide) (by decide) (by omega) (by omega) dX3_init_40 (fun w1 hw9 => ?_)
  obtain ⟨q8, rfl⟩ := hw9
  refine zb_eq (ws' := [(h0, .inr (3, [.ref q1, .ref q4, .null, .null, .null, .null, .int 0, .int 0, .int 0])), (q1, .inr (5, [.ref q2])), (q2, .inl (E.2.2.1 0, 3000, .inl (fun _ => 0))), (q4, .inr (5, [.ref q5])), (q5, .inl (E.2.2.1 0, 3000, .inl (fun _ => 0))), (q7, .inr (5, [.ref q8])), (q8, .inl (E.2.2.1 0, 1600, .inl (fun _ => 0)))]) rfl ?_
  refine zb_num (k' := 6) (n' := 7603) (by decide) (by decide) ?_
  refine zb_putF (q0 := 0) pf_X3_23 rfl (Nat.le_of_ble_eq_true rfl) dX3_init_43 ?_
  refine zb_eq (ws' := [(h0, .inr (3, [.ref q1, .ref q4, .ref q7, .null, .null, .null, .int 0, .int 0, .int 0])), (q1, .inr (5, [.ref q2])), (q2, .inl (E.2.2.1 0, 3000, .inl (fun _ => 0))), (q4, .inr (5, [.ref q5])), (q5, .inl (E.2.2.1 0, 3000, .inl (fun _ => 0))), (q7, .inr (5, [.ref q8])), (q8, .inl (E.2.2.1 0, 1600, .inl (fun _ => 0)))]) rfl ?_
  refine zb_num (k' := 6) (n' := 7603) (by decide) (by decide) ?_
  refine zb_aload_n 0 dX3_init_46 rfl rfl ?_
  refine zb_new mk_X3_9 (by omega) (by omega) dX3_init_47 (fun q10 => ?_)
  refine zb_eq (ws' := [(h0, .inr (3, [.ref q1, .ref q4, .ref q7, .null, .null, .null, .int 0, .int 0, .int 0])), (q1, .inr (5, [.ref q2])), (q2, .inl (E.2.2.1 0, 3000, .inl (fun _ => 0))), (q4, .inr (5, [.ref q5])), (q5, .inl (E.2.2.1 0, 3000, .inl (fun _ => 0))), (q7, .inr (5, [.ref q8])), (q8, .inl (E.2.2.1 0, 1600, .inl (fun _ => 0))), (q10, .inr (5, [.null]))]) rfl ?_
  refine zb_num (k' := 7) (n' := 7604) (by decide) (by decide) ?_
  refine zb_dup dX3_init_50 rfl ?_
  refine zb_sipush (v := 1600) dX3_init_51 (by decide) ?_
  refine zb_call (con_X5 (E := E) q10 1600 1600 (by decide) (by decide) (by decide)) yy_X5_init rfl yi_X5_init li_X3_11 (by omega) rfl rfl (Nat.le_of_ble_eq_true rfl) [7] [0, 1, 2, 3, 4, 5, 6] rfl rfl (by decide) (by decide) (by decide) (by omega) (by omega) dX3_init_54 (fun w1 hw12 => ?_)
  obtain ⟨q11, rfl⟩ := hw12
  refine zb_eq (ws' := [(h0, .inr (3, [.ref q1, .ref q4, .ref q7, .null, .null, .null, .int 0, .int 0, .int 0])), (q1, .inr (5, [.ref q2])), (q2, .inl (E.2.2.1 0, 3000, .inl (fun _ => 0))), (q4, .inr (5, [.ref q5])), (q5, .inl (E.2.2.1 0, 3000, .inl (fun _ => 0))), (q7, .inr (5, [.ref q8])), (q8, .inl (E.2.2.1 0, 1600, .inl (fun _ => 0))), (q10, .inr (5, [.ref q11])), (q11, .inl (E.2.2.1 0, 1600, .inl (fun _ => 0)))]) rfl ?_
  refine zb_num (k' := 8) (n' := 9204) (by decide) (by decide) ?_
  refine zb_putF (q0 := 0) pf_X3_26 rfl (Nat.le_of_ble_eq_true rfl) dX3_init_57 ?_
  refine zb_eq (ws' := [(h0, .inr (3, [.ref q1, .ref q4, .ref q7, .ref q10, .null, .null, .int 0, .int 0, .int 0])), (q1, .inr (5, [.ref q2])), (q2, .inl (E.2.2.1 0, 3000, .inl (fun _ => 0))), (q4, .inr (5, [.ref q5])), (q5, .inl (E.2.2.1 0, 3000, .inl (fun _ => 0))), (q7, .inr (5, [.ref q8])), (q8, .inl (E.2.2.1 0, 1600, .inl (fun _ => 0))), (q10, .inr (5, [.ref q11])), (q11, .inl (E.2.2.1 0, 1600, .inl (fun _ => 0)))]) rfl ?_
  refine zb_num (k' := 8) (n' := 9204) (by decide) (by decide) ?_
  refine zb_aload_n 0 dX3_init_60 rfl rfl ?_
  refine zb_new mk_X3_9 (by omega) (by omega) dX3_init_61 (fun q13 => ?_)
  refine zb_eq (ws' := [(h0, .inr (3, [.ref q1, .ref q4, .ref q7, .ref q10, .null, .null, .int 0, .int 0, .int 0])), (q1, .inr (5, [.ref q2])), (q2, .inl (E.2.2.1 0, 3000, .inl (fun _ => 0))), (q4, .inr (5, [.ref q5])), (q5, .inl (E.2.2.1 0, 3000, .inl (fun _ => 0))), (q7, .inr (5, [.ref q8])), (q8, .inl (E.2.2.1 0, 1600, .inl (fun _ => 0))), (q10, .inr (5, [.ref q11])), (q11, .inl (E.2.2.1 0, 1600, .inl (fun _ => 0))), (q13, .inr (5, [.null]))]) rfl ?_
  refine zb_num (k' := 9) (n' := 9205) (by decide) (by decide) ?_
  refine zb_dup dX3_init_64 rfl ?_
  refine zb_sipush (v := 1600) dX3_init_65 (by decide) ?_
  refine zb_call (con_X5 (E := E) q13 1600 1600 (by decide) (by decide) (by decide)) yy_X5_init rfl yi_X5_init li_X3_11 (by omega) rfl rfl (Nat.le_of_ble_eq_true rfl) [9] [0, 1, 2, 3, 4, 5, 6, 7, 8] rfl rfl (by decide) (by decide) (by decide) (by omega) (by omega) dX3_init_68 (fun w1 hw15 => ?_)
  obtain ⟨q14, rfl⟩ := hw15
  refine zb_eq (ws' := [(h0, .inr (3, [.ref q1, .ref q4, .ref q7, .ref q10, .null, .null, .int 0, .int 0, .int 0])), (q1, .inr (5, [.ref q2])), (q2, .inl (E.2.2.1 0, 3000, .inl (fun _ => 0))), (q4, .inr (5, [.ref q5])), (q5, .inl (E.2.2.1 0, 3000, .inl (fun _ => 0))), (q7, .inr (5, [.ref q8])), (q8, .inl (E.2.2.1 0, 1600, .inl (fun _ => 0))), (q10, .inr (5, [.ref q11])), (q11, .inl (E.2.2.1 0, 1600, .inl (fun _ => 0))), (q13, .inr (5, [.ref q14])), (q14, .inl (E.2.2.1 0, 1600, .inl (fun _ => 0)))]) rfl ?_
  refine zb_num (k' := 10) (n' := 10805) (by decide) (by decide) ?_
  refine zb_putF (q0 := 0) pf_X3_29 rfl (Nat.le_of_ble_eq_true rfl) dX3_init_71 ?_
  refine zb_eq (ws' := [(h0, .inr (3, [.ref q1, .ref q4, .ref q7, .ref q10, .ref q13, .null, .int 0, .int 0, .int 0])), (q1, .inr (5, [.ref q2])), (q2, .inl (E.2.2.1 0, 3000, .inl (fun _ => 0))), (q4, .inr (5, [.ref q5])), (q5, .inl (E.2.2.1 0, 3000, .inl (fun _ => 0))), (q7, .inr (5, [.ref q8])), (q8, .inl (E.2.2.1 0, 1600, .inl (fun _ => 0))), (q10, .inr (5, [.ref q11])), (q11, .inl (E.2.2.1 0, 1600, .inl (fun _ => 0))), (q13, .inr (5, [.ref q14])), (q14, .inl (E.2.2.1 0, 1600, .inl (fun _ => 0)))]) rfl ?_
  refine zb_num (k' := 10) (n' := 10805) (by decide) (by decide) ?_
  refine zb_aload_n 0 dX3_init_74 rfl rfl ?_
  refine zb_new mk_X3_9 (by omega) (by omega) dX3_init_75 (fun q16 => ?_)
  refine zb_eq (ws' := [(h0, .inr (3, [.ref q1, .ref q4, .ref q7, .ref q10, .ref q13, .null, .int 0, .int 0, .int 0])), (q1, .inr (5, [.ref q2])), (q2, .inl (E.2.2.1 0, 3000, .inl (fun _ => 0))), (q4, .inr (5, [.ref q5])), (q5, .inl (E.2.2.1 0, 3000, .inl (fun _ => 0))), (q7, .inr (5, [.ref q8])), (q8, .inl (E.2.2.1 0, 1600, .inl (fun _ => 0))), (q10, .inr (5, [.ref q11])), (q11, .inl (E.2.2.1 0, 1600, .inl (fun _ => 0))), (q13, .inr (5, [.ref q14])), (q14, .inl (E.2.2.1 0, 1600, .inl (fun _ => 0))), (q16, .inr (5, [.null]))]) rfl ?_
  refine zb_num (k' := 11) (n' := 10806) (by decide) (by decide) ?_
  refine zb_dup dX3_init_78 rfl ?_
  refine zb_sipush (v := 256) dX3_init_79 (by decide) ?_
  refine zb_call (con_X5 (E := E) q16 256 256 (by decide) (by decide) (by decide)) yy_X5_init rfl yi_X5_init li_X3_11 (by omega) rfl rfl (Nat.le_of_ble_eq_true rfl) [11] [0, 1, 2, 3, 4, 5, 6, 7, 8, 9, 10] rfl rfl (by decide) (by decide) (by decide) (by omega) (by omega) dX3_init_82 (fun w1 hw18 => ?_)
  obtain ⟨q17, rfl⟩ := hw18
  refine zb_eq (ws' := [(h0, .inr (3, [.ref q1, .ref q4, .ref q7, .ref q10, .ref q13, .null, .int 0, .int 0, .int 0])), (q1, .inr (5, [.ref q2])), (q2, .inl (E.2.2.1 0, 3000, .inl (fun _ => 0))), (q4, .inr (5, [.ref q5])), (q5, .inl (E.2.2.1 0, 3000, .inl (fun _ => 0))), (q7, .inr (5, [.ref q8])), (q8, .inl (E.2.2.1 0, 1600, .inl (fun _ => 0))), (q10, .inr (5, [.ref q11])), (q11, .inl (E.2.2.1 0, 1600, .inl (fun _ => 0))), (q13, .inr (5, [.ref q14])), (q14, .inl (E.2.2.1 0, 1600, .inl (fun _ => 0))), (q16, .inr (5, [.ref q17])), (q17, .inl (E.2.2.1 0, 256, .inl (fun _ => 0)))]) rfl ?_
  refine zb_num (k' := 12) (n' := 11062) (by decide) (by decide) ?_
  refine zb_putF (q0 := 0) pf_X3_32 rfl (Nat.le_of_ble_eq_true rfl) dX3_init_85 ?_
  refine zb_eq (ws' := [(h0, .inr (3, [.ref q1, .ref q4, .ref q7, .ref q10, .ref q13, .ref q16, .int 0, .int 0, .int 0])), (q1, .inr (5, [.ref q2])), (q2, .inl (E.2.2.1 0, 3000, .inl (fun _ => 0))), (q4, .inr (5, [.ref q5])), (q5, .inl (E.2.2.1 0, 3000, .inl (fun _ => 0))), (q7, .inr (5, [.ref q8])), (q8, .inl (E.2.2.1 0, 1600, .inl (fun _ => 0))), (q10, .inr (5, [.ref q11])), (q11, .inl (E.2.2.1 0, 1600, .inl (fun _ => 0))), (q13, .inr (5, [.ref q14])), (q14, .inl (E.2.2.1 0, 1600, .inl (fun _ => 0))), (q16, .inr (5, [.ref q17])), (q17, .inl (E.2.2.1 0, 256, .inl (fun _ => 0)))]) rfl ?_
  refine zb_num (k' := 12) (n' := 11062) (by decide) (by decide) ?_
  exact zb_vret ⟨q1, q2, q4, q5, q7, q8, q10, q11, q13, q14, q16, q17, rfl⟩ (by omega) (by omega) dX3_init_88
def pw_X6 (E : zE) (h0 : Nat) (w : va_W) : Prop := ∃ q1 q2 q4 q5 q7 q8 q10 q11 q13 q14 q16 q17 q19 q20 q22 q23 q25 q26 : Nat, w = [(h0, .inr (6, [.ref q1, .ref q4, .ref q7, .ref q10, .ref q13, .ref q16, .ref q19, .ref q22, .ref q25, .int 0, .int 0])), (q1, .inr (5, [.ref q2])), (q2, .inl (E.2.2.1 0, 1600, .inl (fun _ => 0))), (q4, .inr (5, [.ref q5])), (q5, .inl (E.2.2.1 0, 400, .inl (fun _ => 0))), (q7, .inr (5, [.ref q8])), (q8, .inl (E.2.2.1 0, 400, .inl (fun _ => 0))), (q10, .inr (5, [.ref q11])), (q11, .inl (E.2.2.1 0, 400, .inl (fun _ => 0))), (q13, .inr (5, [.ref q14])), (q14, .inl (E.2.2.1 0, 400, .inl (fun _ => 0))), (q16, .inr (5, [.ref q17])), (q17, .inl (E.2.2.1 0, 400, .inl (fun _ => 0))), (q19, .inr (5, [.ref q20])), (q20, .inl (E.2.2.1 0, 1600, .inl (fun _ => 0))), (q22, .inr (5, [.ref q23])), (q23, .inl (E.2.2.1 0, 1600, .inl (fun _ => 0))), (q25, .inr (5, [.ref q26])), (q26, .inl (E.2.2.1 0, 1600, .inl (fun _ => 0)))]
theorem dX6_init_0 : decode cX6_init 0 = .ok (.aload_n 0, 1) := by decide +kernel
theorem dX6_init_1 : decode cX6_init 1 = .ok (.invokespecial 3, 3) := by decide +kernel
theorem dX6_init_4 : decode cX6_init 4 = .ok (.aload_n 0, 1) := by decide +kernel
theorem dX6_init_5 : decode cX6_init 5 = .ok (.new 9, 3) := by decide +kernel
theorem dX6_init_8 : decode cX6_init 8 = .ok (.dup, 1) := by decide +kernel
theorem dX6_init_9 : decode cX6_init 9 = .ok (.sipush 1600, 3) := by decide +kernel
theorem dX6_init_12 : decode cX6_init 12 = .ok (.invokespecial 11, 3) := by decide +kernel
theorem dX6_init_15 : decode cX6_init 15 = .ok (.putfield 14, 3) := by decide +kernel
theorem dX6_init_18 : decode cX6_init 18 = .ok (.aload_n 0, 1) := by decide +kernel
theorem dX6_init_19 : decode cX6_init 19 = .ok (.new 9, 3) := by decide +kernel
theorem dX6_init_22 : decode cX6_init 22 = .ok (.dup, 1) := by decide +kernel
theorem dX6_init_23 : decode cX6_init 23 = .ok (.sipush 400, 3) := by decide +kernel
theorem dX6_init_26 : decode cX6_init 26 = .ok (.invokespecial 11, 3) := by decide +kernel
theorem dX6_init_29 : decode cX6_init 29 = .ok (.putfield 20, 3) := by decide +kernel
theorem dX6_init_32 : decode cX6_init 32 = .ok (.aload_n 0, 1) := by decide +kernel
theorem dX6_init_33 : decode cX6_init 33 = .ok (.new 9, 3) := by decide +kernel
theorem dX6_init_36 : decode cX6_init 36 = .ok (.dup, 1) := by decide +kernel
theorem dX6_init_37 : decode cX6_init 37 = .ok (.sipush 400, 3) := by decide +kernel
theorem dX6_init_40 : decode cX6_init 40 = .ok (.invokespecial 11, 3) := by decide +kernel
theorem dX6_init_43 : decode cX6_init 43 = .ok (.putfield 23, 3) := by decide +kernel
theorem dX6_init_46 : decode cX6_init 46 = .ok (.aload_n 0, 1) := by decide +kernel
theorem dX6_init_47 : decode cX6_init 47 = .ok (.new 9, 3) := by decide +kernel
theorem dX6_init_50 : decode cX6_init 50 = .ok (.dup, 1) := by decide +kernel
theorem dX6_init_51 : decode cX6_init 51 = .ok (.sipush 400, 3) := by decide +kernel
theorem dX6_init_54 : decode cX6_init 54 = .ok (.invokespecial 11, 3) := by decide +kernel
theorem dX6_init_57 : decode cX6_init 57 = .ok (.putfield 26, 3) := by decide +kernel
theorem dX6_init_60 : decode cX6_init 60 = .ok (.aload_n 0, 1) := by decide +kernel
theorem dX6_init_61 : decode cX6_init 61 = .ok (.new 9, 3) := by decide +kernel
theorem dX6_init_64 : decode cX6_init 64 = .ok (.dup, 1) := by decide +kernel
theorem dX6_init_65 : decode cX6_init 65 = .ok (.sipush 400, 3) := by decide +kernel
theorem dX6_init_68 : decode cX6_init 68 = .ok (.invokespecial 11, 3) := by decide +kernel
theorem dX6_init_71 : decode cX6_init 71 = .ok (.putfield 29, 3) := by decide +kernel
theorem dX6_init_74 : decode cX6_init 74 = .ok (.aload_n 0, 1) := by decide +kernel
theorem dX6_init_75 : decode cX6_init 75 = .ok (.new 9, 3) := by decide +kernel
theorem dX6_init_78 : decode cX6_init 78 = .ok (.dup, 1) := by decide +kernel
theorem dX6_init_79 : decode cX6_init 79 = .ok (.sipush 400, 3) := by decide +kernel
theorem dX6_init_82 : decode cX6_init 82 = .ok (.invokespecial 11, 3) := by decide +kernel
theorem dX6_init_85 : decode cX6_init 85 = .ok (.putfield 32, 3) := by decide +kernel
theorem dX6_init_88 : decode cX6_init 88 = .ok (.aload_n 0, 1) := by decide +kernel
theorem dX6_init_89 : decode cX6_init 89 = .ok (.new 9, 3) := by decide +kernel
theorem dX6_init_92 : decode cX6_init 92 = .ok (.dup, 1) := by decide +kernel
theorem dX6_init_93 : decode cX6_init 93 = .ok (.sipush 1600, 3) := by decide +kernel
theorem dX6_init_96 : decode cX6_init 96 = .ok (.invokespecial 11, 3) := by decide +kernel
theorem dX6_init_99 : decode cX6_init 99 = .ok (.putfield 35, 3) := by decide +kernel
theorem dX6_init_102 : decode cX6_init 102 = .ok (.aload_n 0, 1) := by decide +kernel
theorem dX6_init_103 : decode cX6_init 103 = .ok (.new 9, 3) := by decide +kernel
theorem dX6_init_106 : decode cX6_init 106 = .ok (.dup, 1) := by decide +kernel
theorem dX6_init_107 : decode cX6_init 107 = .ok (.sipush 1600, 3) := by decide +kernel
theorem dX6_init_110 : decode cX6_init 110 = .ok (.invokespecial 11, 3) := by decide +kernel
theorem dX6_init_113 : decode cX6_init 113 = .ok (.putfield 38, 3) := by decide +kernel
theorem dX6_init_116 : decode cX6_init 116 = .ok (.aload_n 0, 1) := by decide +kernel
theorem dX6_init_117 : decode cX6_init 117 = .ok (.new 9, 3) := by decide +kernel
theorem dX6_init_120 : decode cX6_init 120 = .ok (.dup, 1) := by decide +kernel
theorem dX6_init_121 : decode cX6_init 121 = .ok (.sipush 1600, 3) := by decide +kernel
theorem dX6_init_124 : decode cX6_init 124 = .ok (.invokespecial 11, 3) := by decide +kernel
theorem dX6_init_127 : decode cX6_init 127 = .ok (.putfield 41, 3) := by decide +kernel
theorem dX6_init_130 : decode cX6_init 130 = .ok (.return_, 1) := by decide +kernel
set_option maxHeartbeats 8000000 in
set_option maxRecDepth 100000 in
theorem con_X6 {E : zE} (h0 : Nat) : zCon E yX6_init cX6_init 1 2 18 8409 [.ref h0] [(h0, .inr (6, [.null, .null, .null, .null, .null, .null, .null, .null, .null, .int 0, .int 0]))] (pw_X6 E h0) := by
  refine zCon_of (by decide) rfl (Nat.le_of_ble_eq_true rfl) (fun C A => ?_)
  show zB E C cX6_init RX6 1 2 18 8409 A _ _ 0 0 0 [(0, .ref h0)] []
  refine zb_aload_n 0 dX6_init_0 rfl rfl ?_
  refine zb_obj lo_X6_3 oi1 oi2 (by omega) (Nat.le_of_ble_eq_true rfl) dX6_init_1 ?_
  refine zb_aload_n 0 dX6_init_4 rfl rfl ?_
  refine zb_new mk_X6_9 (by omega) (by omega) dX6_init_5 (fun q1 => ?_)
  refine zb_eq (ws' := [(h0, .inr (6, [.null, .null, .null, .null, .null, .null, .null, .null, .null, .int 0, .int 0])), (q1, .inr (5, [.null]))]) rfl ?_
  refine zb_num (k' := 1) (n' := 1) (by decide) (by decide) ?_
  refine zb_dup dX6_init_8 rfl ?_
  refine zb_sipush (v := 1600) dX6_init_9 (by decide) ?_
  refine zb_call (con_X5 (E := E) q1 1600 1600 (by decide) (by decide) (by decide)) yy_X5_init rfl yi_X5_init li_X6_11 (by omega) rfl rfl (Nat.le_of_ble_eq_true rfl) [1] [0] rfl rfl (by decide) (by decide) (by decide) (by omega) (by omega) dX6_init_12 (fun w1 hw3 => ?_)
  obtain ⟨q2, rfl⟩ := hw3
  refine zb_eq (ws' := [(h0, .inr (6, [.null, .null, .null, .null, .null, .null, .null, .null, .null, .int 0, .int 0])), (q1, .inr (5, [.ref q2])), (q2, .inl (E.2.2.1 0, 1600, .inl (fun _ => 0)))]) rfl ?_
  refine zb_num (k' := 2) (n' := 1601) (by decide) (by decide) ?_
  refine zb_putF (q0 := 0) pf_X6_14 rfl (Nat.le_of_ble_eq_true rfl) dX6_init_15 ?_
  refine zb_eq (ws' := [(h0, .inr (6, [.ref q1, .null, .null, .null, .null, .null, .null, .null, .null, .int 0, .int 0])), (q1, .inr (5, [.ref q2])), (q2, .inl (E.2.2.1 0, 1600, .inl (fun _ => 0)))]) rfl ?_
  refine zb_num (k' := 2) (n' := 1601) (by decide) (by decide) ?_
  refine zb_aload_n 0 dX6_init_18 rfl rfl ?_
  refine zb_new mk_X6_9 (by omega) (by omega) dX6_init_19 (fun q4 => ?_)
  refine zb_eq (ws' := [(h0, .inr (6, [.ref q1, .null, .null, .null, .null, .null, .null, .null, .null, .int 0, .int 0])), (q1, .inr (5, [.ref q2])), (q2, .inl (E.2.2.1 0, 1600, .inl (fun _ => 0))), (q4, .inr (5, [.null]))]) rfl ?_
  refine zb_num (k' := 3) (n' := 1602) (by decide) (by decide) ?_
  refine zb_dup dX6_init_22 rfl ?_
  refine zb_sipush (v := 400) dX6_init_23 (by decide) ?_
  refine zb_call (con_X5 (E := E) q4 400 400 (by decide) (by decide) (by decide)) yy_X5_init rfl yi_X5_init li_X6_11 (by omega) rfl rfl (Nat.le_of_ble_eq_true rfl) [3] [0, 1, 2] rfl rfl (by decide) (by decide) (by decide) (by omega) (by omega) dX6_init_26 (fun w1 hw6 => ?_)
  obtain ⟨q5, rfl⟩ := hw6
  refine zb_eq (ws' := [(h0, .inr (6, [.ref q1, .null, .null, .null, .null, .null, .null, .null, .null, .int 0, .int 0])), (q1, .inr (5, [.ref q2])), (q2, .inl (E.2.2.1 0, 1600, .inl (fun _ => 0))), (q4, .inr (5, [.ref q5])), (q5, .inl (E.2.2.1 0, 400, .inl (fun _ => 0)))]) rfl ?_
  refine zb_num (k' := 4) (n' := 2002) (by decide) (by decide) ?_
  refine zb_putF (q0 := 0) pf_X6_20 rfl (Nat.le_of_ble_eq_true rfl) dX6_init_29 ?_
  refine zb_eq (ws' := [(h0, .inr (6, [.ref q1, .ref q4, .null, .null, .null, .null, .null, .null, .null, .int 0, .int 0])), (q1, .inr (5, [.ref q2])), (q2, .inl (E.2.2.1 0, 1600, .inl (fun _ => 0))), (q4, .inr (5, [.ref q5])), (q5, .inl (E.2.2.1 0, 400, .inl (fun _ => 0)))]) rfl ?_
  refine zb_num (k' := 4) (n' := 2002) (by decide) (by decide) ?_
  refine zb_aload_n 0 dX6_init_32 rfl rfl ?_
  refine zb_new mk_X6_9 (by omega) (by omega) dX6_init_33 (fun q7 => ?_)
  refine zb_eq (ws' := [(h0, .inr (6, [.ref q1, .ref q4, .null, .null, .null, .null, .null, .null, .null, .int 0, .int 0])), (q1, .inr (5, [.ref q2])), (q2, .inl (E.2.2.1 0, 1600, .inl (fun _ => 0))), (q4, .inr (5, [.ref q5])), (q5, .inl (E.2.2.1 0, 400, .inl (fun _ => 0))), (q7, .inr (5, [.null]))]) rfl ?_
  refine zb_num (k' := 5) (n' := 2003) (by decide) (by decide) ?_
  refine zb_dup dX6_init_36 rfl ?_
  refine zb_sipush (v := 400) dX6_init_37 (by decide) ?_
  refine zb_call (con_X5 (E := E) q7 400 400 (by decide) (by decide) (by decide)) yy_X5_init rfl yi_X5_init li_X6_11 (by omega) rfl rfl (Nat.le_of_ble_eq_true rfl) [5] [0, 1, 2, 3, 4] rfl rfl (by decide) (by decide) (by decide) (by omega) (by omega) dX6_init_40 (fun w1 hw9 => ?_)
  obtain ⟨q8, rfl⟩ := hw9
  refine zb_eq (ws' := [(h0, .inr (6, [.ref q1, .ref q4, .null, .null, .null, .null, .null, .null, .null, .int 0, .int 0])), (q1, .inr (5, [.ref q2])), (q2, .inl (E.2.2.1 0, 1600, .inl (fun _ => 0))), (q4, .inr (5, [.ref q5])), (q5, .inl (E.2.2.1 0, 400, .inl (fun _ => 0))), (q7, .inr (5, [.ref q8])), (q8, .inl (E.2.2.1 0, 400, .inl (fun _ => 0)))]) rfl ?_
  refine zb_num (k' := 6) (n' := 2403) (by decide) (by decide) ?_
  refine zb_putF (q0 := 0) pf_X6_23 rfl (Nat.le_of_ble_eq_true rfl) dX6_init_43 ?_
  refine zb_eq (ws' := [(h0, .inr (6, [.ref q1, .ref q4, .ref q7, .null, .null, .null, .null, .null, .null, .int 0, .int 0])), (q1, .inr (5, [.ref q2])), (q2, .inl (E.2.2.1 0, 1600, .inl (fun _ => 0))), (q4, .inr (5, [.ref q5])), (q5, .inl (E.2.2.1 0, 400, .inl (fun _ => 0))), (q7, .inr (5, [.ref q8])), (q8, .inl (E.2.2.1 0, 400, .inl (fun _ => 0)))]) rfl ?_
  refine zb_num (k' := 6) (n' := 2403) (by decide) (by decide) ?_
  refine zb_aload_n 0 dX6_init_46 rfl rfl ?_
  refine zb_new mk_X6_9 (by omega) (by omega) dX6_init_47 (fun q10 => ?_)
  refine zb_eq (ws' := [(h0, .inr (6, [.ref q1, .ref q4, .ref q7, .null, .null, .null, .null, .null, .null, .int 0, .int 0])), (q1, .inr (5, [.ref q2])), (q2, .inl (E.2.2.1 0, 1600, .inl (fun _ => 0))), (q4, .inr (5, [.ref q5])), (q5, .inl (E.2.2.1 0, 400, .inl (fun _ => 0))), (q7, .inr (5, [.ref q8])), (q8, .inl (E.2.2.1 0, 400, .inl (fun _ => 0))), (q10, .inr (5, [.null]))]) rfl ?_
  refine zb_num (k' := 7) (n' := 2404) (by decide) (by decide) ?_
  refine zb_dup dX6_init_50 rfl ?_
  refine zb_sipush (v := 400) dX6_init_51 (by decide) ?_
  refine zb_call (con_X5 (E := E) q10 400 400 (by decide) (by decide) (by decide)) yy_X5_init rfl yi_X5_init li_X6_11 (by omega) rfl rfl (Nat.le_of_ble_eq_true rfl) [7] [0, 1, 2, 3, 4, 5, 6] rfl rfl (by decide) (by decide) (by decide) (by omega) (by omega) dX6_init_54 (fun w1 hw12 => ?_)
  obtain ⟨q11, rfl⟩ := hw12
  refine zb_eq (ws' := [(h0, .inr (6, [.ref q1, .ref q4, .ref q7, .null, .null, .null, .null, .null, .null, .int 0, .int 0])), (q1, .inr (5, [.ref q2])), (q2, .inl (E.2.2.1 0, 1600, .inl (fun _ => 0))), (q4, .inr (5, [.ref q5])), (q5, .inl (E.2.2.1 0, 400, .inl (fun _ => 0))), (q7, .inr (5, [.ref q8])), (q8, .inl (E.2.2.1 0, 400, .inl (fun _ => 0))), (q10, .inr (5, [.ref q11])), (q11, .inl (E.2.2.1 0, 400, .inl (fun _ => 0)))]) rfl ?_
  refine zb_num (k' := 8) (n' := 2804) (by decide) (by decide) ?_
  refine zb_putF (q0 := 0) pf_X6_26 rfl (Nat.le_of_ble_eq_true rfl) dX6_init_57 ?_
  refine zb_eq (ws' := [(h0, .inr (6, [.ref q1, .ref q4, .ref q7, .ref q10, .null, .null, .null, .null, .null, .int 0, .int 0])), (q1, .inr (5, [.ref q2])), (q2, .inl (E.2.2.1 0, 1600, .inl (fun _ => 0))), (q4, .inr (5, [.ref q5])), (q5, .inl (E.2.2.1 0, 400, .inl (fun _ => 0))), (q7, .inr (5, [.ref q8])), (q8, .inl (E.2.2.1 0, 400, .inl (fun _ => 0))), (q10, .inr (5, [.ref q11])), (q11, .inl (E.2.2.1 0, 400, .inl (fun _ => 0)))]) rfl ?_
  refine zb_num (k' := 8) (n' := 2804) (by decide) (by decide) ?_
  refine zb_aload_n 0 dX6_init_60 rfl rfl ?_
  refine zb_new mk_X6_9 (by omega) (by omega) dX6_init_61 (fun q13 => ?_)
  refine zb_eq (ws' := [(h0, .inr (6, [.ref q1, .ref q4, .ref q7, .ref q10, .null, .null, .null, .null, .null, .int 0, .int 0])), (q1, .inr (5, [.ref q2])), (q2, .inl (E.2.2.1 0, 1600, .inl (fun _ => 0))), (q4, .inr (5, [.ref q5])), (q5, .inl (E.2.2.1 0, 400, .inl (fun _ => 0))), (q7, .inr (5, [.ref q8])), (q8, .inl (E.2.2.1 0, 400, .inl (fun _ => 0))), (q10, .inr (5, [.ref q11])), (q11, .inl (E.2.2.1 0, 400, .inl (fun _ => 0))), (q13, .inr (5, [.null]))]) rfl ?_
  refine zb_num (k' := 9) (n' := 2805) (by decide) (by decide) ?_
  refine zb_dup dX6_init_64 rfl ?_
  refine zb_sipush (v := 400) dX6_init_65 (by decide) ?_
  refine zb_call (con_X5 (E := E) q13 400 400 (by decide) (by decide) (by decide)) yy_X5_init rfl yi_X5_init li_X6_11 (by omega) rfl rfl (Nat.le_of_ble_eq_true rfl) [9] [0, 1, 2, 3, 4, 5, 6, 7, 8] rfl rfl (by decide) (by decide) (by decide) (by omega) (by omega) dX6_init_68 (fun w1 hw15 => ?_)
  obtain ⟨q14, rfl⟩ := hw15
  refine zb_eq (ws' := [(h0, .inr (6, [.ref q1, .ref q4, .ref q7, .ref q10, .null, .null, .null, .null, .null, .int 0, .int 0])), (q1, .inr (5, [.ref q2])), (q2, .inl (E.2.2.1 0, 1600, .inl (fun _ => 0))), (q4, .inr (5, [.ref q5])), (q5, .inl (E.2.2.1 0, 400, .inl (fun _ => 0))), (q7, .inr (5, [.ref q8])), (q8, .inl (E.2.2.1 0, 400, .inl (fun _ => 0))), (q10, .inr (5, [.ref q11])), (q11, .inl (E.2.2.1 0, 400, .inl (fun _ => 0))), (q13, .inr (5, [.ref q14])), (q14, .inl (E.2.2.1 0, 400, .inl (fun _ => 0)))]) rfl ?_
  refine zb_num (k' := 10) (n' := 3205) (by decide) (by decide) ?_
  refine zb_putF (q0 := 0) pf_X6_29 rfl (Nat.le_of_ble_eq_true rfl) dX6_init_71 ?_
  refine zb_eq (ws' := [(h0, .inr (6, [.ref q1, .ref q4, .ref q7, .ref q10, .ref q13, .null, .null, .null, .null, .int 0, .int 0])), (q1, .inr (5, [.ref q2])), (q2, .inl (E.2.2.1 0, 1600, .inl (fun _ => 0))), (q4, .inr (5, [.ref q5])), (q5, .inl (E.2.2.1 0, 400, .inl (fun _ => 0))), (q7, .inr (5, [.ref q8])), (q8, .inl (E.2.2.1 0, 400, .inl (fun _ => 0))), (q10, .inr (5, [.ref q11])), (q11, .inl (E.2.2.1 0, 400, .inl (fun _ => 0))), (q13, .inr (5, [.ref q14])), (q14, .inl (E.2.2.1 0, 400, .inl (fun _ => 0)))]) rfl ?_
  refine zb_num (k' := 10) (n' := 3205) (by decide) (by decide) ?_
  refine zb_aload_n 0 dX6_init_74 rfl rfl ?_
  refine zb_new mk_X6_9 (by omega) (by omega) dX6_init_75 (fun q16 => ?_)
  refine zb_eq (ws' := [(h0, .inr (6, [.ref q1, .ref q4, .ref q7, .ref q10, .ref q13, .null, .null, .null, .null, .int 0, .int 0])), (q1, .inr (5, [.ref q2])), (q2, .inl (E.2.2.1 0, 1600, .inl (fun _ => 0))), (q4, .inr (5, [.ref q5])), (q5, .inl (E.2.2.1 0, 400, .inl (fun _ => 0))), (q7, .inr (5, [.ref q8])), (q8, .inl (E.2.2.1 0, 400, .inl (fun _ => 0))), (q10, .inr (5, [.ref q11])), (q11, .inl (E.2.2.1 0, 400, .inl (fun _ => 0))), (q13, .inr (5, [.ref q14])), (q14, .inl (E.2.2.1 0, 400, .inl (fun _ => 0))), (q16, .inr (5, [.null]))]) rfl ?_
  refine zb_num (k' := 11) (n' := 3206) (by decide) (by decide) ?_
  refine zb_dup dX6_init_78 rfl ?_
  refine zb_sipush (v := 400) dX6_init_79 (by decide) ?_
  refine zb_call (con_X5 (E := E) q16 400 400 (by decide) (by decide) (by decide)) yy_X5_init rfl yi_X5_init li_X6_11 (by omega) rfl rfl (Nat.le_of_ble_eq_true rfl) [11] [0, 1, 2, 3, 4, 5, 6, 7, 8, 9, 10] rfl rfl (by decide) (by decide) (by decide) (by omega) (by omega) dX6_init_82 (fun w1 hw18 => ?_)
  obtain ⟨q17, rfl⟩ := hw18
  refine zb_eq (ws' := [(h0, .inr (6, [.ref q1, .ref q4, .ref q7, .ref q10, .ref q13, .null, .null, .null, .null, .int 0, .int 0])), (q1, .inr (5, [.ref q2])), (q2, .inl (E.2.2.1 0, 1600, .inl (fun _ => 0))), (q4, .inr (5, [.ref q5])), (q5, .inl (E.2.2.1 0, 400, .inl (fun _ => 0))), (q7, .inr (5, [.ref q8])), (q8, .inl (E.2.2.1 0, 400, .inl (fun _ => 0))), (q10, .inr (5, [.ref q11])), (q11, .inl (E.2.2.1 0, 400, .inl (fun _ => 0))), (q13, .inr (5, [.ref q14])), (q14, .inl (E.2.2.1 0, 400, .inl (fun _ => 0))), (q16, .inr (5, [.ref q17])), (q17, .inl (E.2.2.1 0, 400, .inl (fun _ => 0)))]) rfl ?_
  refine zb_num (k' := 12) (n' := 3606) (by decide) (by decide) ?_
  refine zb_putF (q0 := 0) pf_X6_32 rfl (Nat.le_of_ble_eq_true rfl) dX6_init_85 ?_
  refine zb_eq (ws' := [(h0, .inr (6, [.ref q1, .ref q4, .ref q7, .ref q10, .ref q13, .ref q16, .null, .null, .null, .int 0, .int 0])), (q1, .inr (5, [.ref q2])), (q2, .inl (E.2.2.1 0, 1600, .inl (fun _ => 0))), (q4, .inr (5, [.ref q5])), (q5, .inl (E.2.2.1 0, 400, .inl (fun _ => 0))), (q7, .inr (5, [.ref q8])), (q8, .inl (E.2.2.1 0, 400, .inl (fun _ => 0))), (q10, .inr (5, [.ref q11])), (q11, .inl (E.2.2.1 0, 400, .inl (fun _ => 0))), (q13, .inr (5, [.ref q14])), (q14, .inl (E.2.2.1 0, 400, .inl (fun _ => 0))), (q16, .inr (5, [.ref q17])), (q17, .inl (E.2.2.1 0, 400, .inl (fun _ => 0)))]) rfl ?_
  refine zb_num (k' := 12) (n' := 3606) (by decide) (by decide) ?_
  refine zb_aload_n 0 dX6_init_88 rfl rfl ?_
  refine zb_new mk_X6_9 (by omega) (by omega) dX6_init_89 (fun q19 => ?_)
  refine zb_eq (ws' := [(h0, .inr (6, [.ref q1, .ref q4, .ref q7, .ref q10, .ref q13, .ref q16, .null, .null, .null, .int 0, .int 0])), (q1, .inr (5, [.ref q2])), (q2, .inl (E.2.2.1 0, 1600, .inl (fun _ => 0))), (q4, .inr (5, [.ref q5])), (q5, .inl (E.2.2.1 0, 400, .inl (fun _ => 0))), (q7, .inr (5, [.ref q8])), (q8, .inl (E.2.2.1 0, 400, .inl (fun _ => 0))), (q10, .inr (5, [.ref q11])), (q11, .inl (E.2.2.1 0, 400, .inl (fun _ => 0))), (q13, .inr (5, [.ref q14])), (q14, .inl (E.2.2.1 0, 400, .inl (fun _ => 0))), (q16, .inr (5, [.ref q17])), (q17, .inl (E.2.2.1 0, 400, .inl (fun _ => 0))), (q19, .inr (5, [.null]))]) rfl ?_
  refine zb_num (k' := 13) (n' := 3607) (by decide) (by decide) ?_
  refine zb_dup dX6_init_92 rfl ?_
  refine zb_sipush (v := 1600) dX6_init_93 (by decide) ?_
  refine zb_call (con_X5 (E := E) q19 1600 1600 (by decide) (by decide) (by decide)) yy_X5_init rfl yi_X5_init li_X6_11 (by omega) rfl rfl (Nat.le_of_ble_eq_true rfl) [13] [0, 1, 2, 3, 4, 5, 6, 7, 8, 9, 10, 11, 12] rfl rfl (by decide) (by decide) (by decide) (by omega) (by omega) dX6_init_96 (fun w1 hw21 => ?_)
  obtain ⟨q20, rfl⟩ := hw21
  refine zb_eq (ws' := [(h0, .inr (6, [.ref q1, .ref q4, .ref q7, .ref q10, .ref q13, .ref q16, .null, .null, .null, .int 0, .int 0])), (q1, .inr (5, [.ref q2])), (q2, .inl (E.2.2.1 0, 1600, .inl (fun _ => 0))), (q4, .inr (5, [.ref q5])), (q5, .inl (E.2.2.1 0, 400, .inl (fun _ => 0))), (q7, .inr (5, [.ref q8])), (q8, .inl (E.2.2.1 0, 400, .inl (fun _ => 0))), (q10, .inr (5, [.ref q11])), (q11, .inl (E.2.2.1 0, 400, .inl (fun _ => 0))), (q13, .inr (5, [.ref q14])), (q14, .inl (E.2.2.1 0, 400, .inl (fun _ => 0))), (q16, .inr (5, [.ref q17])), (q17, .inl (E.2.2.1 0, 400, .inl (fun _ => 0))), (q19, .inr (5, [.ref q20])), (q20, .inl (E.2.2.1 0, 1600, .inl (fun _ => 0)))]) rfl ?_
  refine zb_num (k' := 14) (n' := 5207) (by decide) (by decide) ?_
  refine zb_putF (q0 := 0) pf_X6_35 rfl (Nat.le_of_ble_eq_true rfl) dX6_init_99 ?_
  refine zb_eq (ws' := [(h0, .inr (6, [.ref q1, .ref q4, .ref q7, .ref q10, .ref q13, .ref q16, .ref q19, .null, .null, .int 0, .int 0])), (q1, .inr (5, [.ref q2])), (q2, .inl (E.2.2.1 0, 1600, .inl (fun _ => 0))), (q4, .inr (5, [.ref q5])), (q5, .inl (E.2.2.1 0, 400, .inl (fun _ => 0))), (q7, .inr (5, [.ref q8])), (q8, .inl (E.2.2.1 0, 400, .inl (fun _ => 0))), (q10, .inr (5, [.ref q11])), (q11, .inl (E.2.2.1 0, 400, .inl (fun _ => 0))), (q13, .inr (5, [.ref q14])), (q14, .inl (E.2.2.1 0, 400, .inl (fun _ => 0))), (q16, .inr (5, [.ref q17])), (q17, .inl (E.2.2.1 0, 400, .inl (fun _ => 0))), (q19, .inr (5, [.ref q20])), (q20, .inl (E.2.2.1 0, 1600, .inl (fun _ => 0)))]) rfl ?_
  refine zb_num (k' := 14) (n' := 5207) (by decide) (by decide) ?_
  refine zb_aload_n 0 dX6_init_102 rfl rfl ?_
  refine zb_new mk_X6_9 (by omega) (by omega) dX6_init_103 (fun q22 => ?_)
  refine zb_eq (ws' := [(h0, .inr (6, [.ref q1, .ref q4, .ref q7, .ref q10, .ref q13, .ref q16, .ref q19, .null, .null, .int 0, .int 0])), (q1, .inr (5, [.ref q2])), (q2, .inl (E.2.2.1 0, 1600, .inl (fun _ => 0))), (q4, .inr (5, [.ref q5])), (q5, .inl (E.2.2.1 0, 400, .inl (fun _ => 0))), (q7, .inr (5, [.ref q8])), (q8, .inl (E.2.2.1 0, 400, .inl (fun _ => 0))), (q10, .inr (5, [.ref q11])), (q11, .inl (E.2.2.1 0, 400, .inl (fun _ => 0))), (q13, .inr (5, [.ref q14])), (q14, .inl (E.2.2.1 0, 400, .inl (fun _ => 0))), (q16, .inr (5, [.ref q17])), (q17, .inl (E.2.2.1 0, 400, .inl (fun _ => 0))), (q19, .inr (5, [.ref q20])), (q20, .inl (E.2.2.1 0, 1600, .inl (fun _ => 0))), (q22, .inr (5, [.null]))]) rfl ?_
  refine zb_num (k' := 15) (n' := 5208) (by decide) (by decide) ?_
  refine zb_dup dX6_init_106 rfl ?_
  refine zb_sipush (v := 1600) dX6_init_107 (by decide) ?_
  refine zb_call (con_X5 (E := E) q22 1600 1600 (by decide) (by decide) (by decide)) yy_X5_init rfl yi_X5_init li_X6_11 (by omega) rfl rfl (Nat.le_of_ble_eq_true rfl) [15] [0, 1, 2, 3, 4, 5, 6, 7, 8, 9, 10, 11, 12, 13, 14] rfl rfl (by decide) (by decide) (by decide) (by omega) (by omega) dX6_init_110 (fun w1 hw24 => ?_)
  obtain ⟨q23, rfl⟩ := hw24
  refine zb_eq (ws' := [(h0, .inr (6, [.ref q1, .ref q4, .ref q7, .ref q10, .ref q13, .ref q16, .ref q19, .null, .null, .int 0, .int 0])), (q1, .inr (5, [.ref q2])), (q2, .inl (E.2.2.1 0, 1600, .inl (fun _ => 0))), (q4, .inr (5, [.ref q5])), (q5, .inl (E.2.2.1 0, 400, .inl (fun _ => 0))), (q7, .inr (5, [.ref q8])), (q8, .inl (E.2.2.1 0, 400, .inl (fun _ => 0))), (q10, .inr (5, [.ref q11])), (q11, .inl (E.2.2.1 0, 400, .inl (fun _ => 0))), (q13, .inr (5, [.ref q14])), (q14, .inl (E.2.2.1 0, 400, .inl (fun _ => 0))), (q16, .inr (5, [.ref q17])), (q17, .inl (E.2.2.1 0, 400, .inl (fun _ => 0))), (q19, .inr (5, [.ref q20])), (q20, .inl (E.2.2.1 0, 1600, .inl (fun _ => 0))), (q22, .inr (5, [.ref q23])), (q23, .inl (E.2.2.1 0, 1600, .inl (fun _ => 0)))]) rfl ?_
  refine zb_num (k' := 16) (n' := 6808) (by decide) (by decide) ?_
  refine zb_putF (q0 := 0) pf_X6_38 rfl (Nat.le_of_ble_eq_true rfl) dX6_init_113 ?_
  refine zb_eq (ws' := [(h0, .inr (6, [.ref q1, .ref q4, .ref q7, .ref q10, .ref q13, .ref q16, .ref q19, .ref q22, .null, .int 0, .int 0])), (q1, .inr (5, [.ref q2])), (q2, .inl (E.2.2.1 0, 1600, .inl (fun _ => 0))), (q4, .inr (5, [.ref q5])), (q5, .inl (E.2.2.1 0, 400, .inl (fun _ => 0))), (q7, .inr (5, [.ref q8])), (q8, .inl (E.2.2.1 0, 400, .inl (fun _ => 0))), (q10, .inr (5, [.ref q11])), (q11, .inl (E.2.2.1 0, 400, .inl (fun _ => 0))), (q13, .inr (5, [.ref q14])), (q14, .inl (E.2.2.1 0, 400, .inl (fun _ => 0))), (q16, .inr (5, [.ref q17])), (q17, .inl (E.2.2.1 0, 400, .inl (fun _ => 0))), (q19, .inr (5, [.ref q20])), (q20, .inl (E.2.2.1 0, 1600, .inl (fun _ => 0))), (q22, .inr (5, [.ref q23])), (q23, .inl (E.2.2.1 0, 1600, .inl (fun _ => 0)))]) rfl ?_
  refine zb_num (k' := 16) (n' := 6808) (by decide) (by decide) ?_
  refine zb_aload_n 0 dX6_init_116 rfl rfl ?_
  refine zb_new mk_X6_9 (by omega) (by omega) dX6_init_117 (fun q25 => ?_)
  refine zb_eq (ws' := [(h0, .inr (6, [.ref q1, .ref q4, .ref q7, .ref q10, .ref q13, .ref q16, .ref q19, .ref q22, .null, .int 0, .int 0])), (q1, .inr (5, [.ref q2])), (q2, .inl (E.2.2.1 0, 1600, .inl (fun _ => 0))), (q4, .inr (5, [.ref q5])), (q5, .inl (E.2.2.1 0, 400, .inl (fun _ => 0))), (q7, .inr (5, [.ref q8])), (q8, .inl (E.2.2.1 0, 400, .inl (fun _ => 0))), (q10, .inr (5, [.ref q11])), (q11, .inl (E.2.2.1 0, 400, .inl (fun _ => 0))), (q13, .inr (5, [.ref q14])), (q14, .inl (E.2.2.1 0, 400, .inl (fun _ => 0))), (q16, .inr (5, [.ref q17])), (q17, .inl (E.2.2.1 0, 400, .inl (fun _ => 0))), (q19, .inr (5, [.ref q20])), (q20, .inl (E.2.2.1 0, 1600, .inl (fun _ => 0))), (q22, .inr (5, [.ref q23])), (q23, .inl (E.2.2.1 0, 1600, .inl (fun _ => 0))), (q25, .inr (5, [.null]))]) rfl ?_
  refine zb_num (k' := 17) (n' := 6809) (by decide) (by decide) ?_
  refine zb_dup dX6_init_120 rfl ?_
  refine zb_sipush (v := 1600) dX6_init_121 (by decide) ?_
  refine zb_call (con_X5 (E := E) q25 1600 1600 (by decide) (by decide) (by decide)) yy_X5_init rfl yi_X5_init li_X6_11 (by omega) rfl rfl (Nat.le_of_ble_eq_true rfl) [17] [0, 1, 2, 3, 4, 5, 6, 7, 8, 9, 10, 11, 12, 13, 14, 15, 16] rfl rfl (by decide) (by decide) (by decide) (by omega) (by omega) dX6_init_124 (fun w1 hw27 => ?_)
  obtain ⟨q26, rfl⟩ := hw27
  refine zb_eq (ws' := [(h0, .inr (6, [.ref q1, .ref q4, .ref q7, .ref q10, .ref q13, .ref q16, .ref q19, .ref q22, .null, .int 0, .int 0])), (q1, .inr (5, [.ref q2])), (q2, .inl (E.2.2.1 0, 1600, .inl (fun _ => 0))), (q4, .inr (5, [.ref q5])), (q5, .inl (E.2.2.1 0, 400, .inl (fun _ => 0))), (q7, .inr (5, [.ref q8])), (q8, .inl (E.2.2.1 0, 400, .inl (fun _ => 0))), (q10, .inr (5, [.ref q11])), (q11, .inl (E.2.2.1 0, 400, .inl (fun _ => 0))), (q13, .inr (5, [.ref q14])), (q14, .inl (E.2.2.1 0, 400, .inl (fun _ => 0))), (q16, .inr (5, [.ref q17])), (q17, .inl (E.2.2.1 0, 400, .inl (fun _ => 0))), (q19, .inr (5, [.ref q20])), (q20, .inl (E.2.2.1 0, 1600, .inl (fun _ => 0))), (q22, .inr (5, [.ref q23])), (q23, .inl (E.2.2.1 0, 1600, .inl (fun _ => 0))), (q25, .inr (5, [.ref q26])), (q26, .inl (E.2.2.1 0, 1600, .inl (fun _ => 0)))]) rfl ?_
  refine zb_num (k' := 18) (n' := 8409) (by decide) (by decide) ?_
  refine zb_putF (q0 := 0) pf_X6_41 rfl (Nat.le_of_ble_eq_true rfl) dX6_init_127 ?_
  refine zb_eq (ws' := [(h0, .inr (6, [.ref q1, .ref q4, .ref q7, .ref q10, .ref q13, .ref q16, .ref q19, .ref q22, .ref q25, .int 0, .int 0])), (q1, .inr (5, [.ref q2])), (q2, .inl (E.2.2.1 0, 1600, .inl (fun _ => 0))), (q4, .inr (5, [.ref q5])), (q5, .inl (E.2.2.1 0, 400, .inl (fun _ => 0))), (q7, .inr (5, [.ref q8])), (q8, .inl (E.2.2.1 0, 400, .inl (fun _ => 0))), (q10, .inr (5, [.ref q11])), (q11, .inl (E.2.2.1 0, 400, .inl (fun _ => 0))), (q13, .inr (5, [.ref q14])), (q14, .inl (E.2.2.1 0, 400, .inl (fun _ => 0))), (q16, .inr (5, [.ref q17])), (q17, .inl (E.2.2.1 0, 400, .inl (fun _ => 0))), (q19, .inr (5, [.ref q20])), (q20, .inl (E.2.2.1 0, 1600, .inl (fun _ => 0))), (q22, .inr (5, [.ref q23])), (q23, .inl (E.2.2.1 0, 1600, .inl (fun _ => 0))), (q25, .inr (5, [.ref q26])), (q26, .inl (E.2.2.1 0, 1600, .inl (fun _ => 0)))]) rfl ?_
  refine zb_num (k' := 18) (n' := 8409) (by decide) (by decide) ?_
  exact zb_vret ⟨q1, q2, q4, q5, q7, q8, q10, q11, q13, q14, q16, q17, q19, q20, q22, q23, q25, q26, rfl⟩ (by omega) (by omega) dX6_init_130
def pw_X8 (E : zE) (h0 : Nat) (w : va_W) : Prop := ∃ q1 q2 q4 q5 q7 q8 q10 q11 q13 q14 q16 q17 q19 q20 q22 q23 q25 q26 q28 q29 : Nat, w = [(h0, .inr (8, [.ref q1, .ref q4, .ref q7, .ref q10, .ref q13, .ref q16, .ref q19, .ref q22, .ref q25, .ref q28, .int 0, .int 0, .int 0, .int 0, .int 0, .int 0, .int 0, .int 0])), (q1, .inr (5, [.ref q2])), (q2, .inl (E.2.2.1 0, 2501, .inl (fun _ => 0))), (q4, .inr (5, [.ref q5])), (q5, .inl (E.2.2.1 0, 2501, .inl (fun _ => 0))), (q7, .inr (5, [.ref q8])), (q8, .inl (E.2.2.1 0, 2501, .inl (fun _ => 0))), (q10, .inr (5, [.ref q11])), (q11, .inl (E.2.2.1 0, 2501, .inl (fun _ => 0))), (q13, .inr (5, [.ref q14])), (q14, .inl (E.2.2.1 0, 2501, .inl (fun _ => 0))), (q16, .inr (5, [.ref q17])), (q17, .inl (E.2.2.1 0, 2501, .inl (fun _ => 0))), (q19, .inr (5, [.ref q20])), (q20, .inl (E.2.2.1 0, 2501, .inl (fun _ => 0))), (q22, .inr (5, [.ref q23])), (q23, .inl (E.2.2.1 0, 2501, .inl (fun _ => 0))), (q25, .inr (5, [.ref q26])), (q26, .inl (E.2.2.1 0, 24000, .inl (fun _ => 0))), (q28, .inr (5, [.ref q29])), (q29, .inl (E.2.2.1 0, 24000, .inl (fun _ => 0)))]
theorem dX8_init_0 : decode cX8_init 0 = .ok (.aload_n 0, 1) := by decide +kernel
theorem dX8_init_1 : decode cX8_init 1 = .ok (.invokespecial 3, 3) := by decide +kernel
theorem dX8_init_4 : decode cX8_init 4 = .ok (.aload_n 0, 1) := by decide +kernel
theorem dX8_init_5 : decode cX8_init 5 = .ok (.new 9, 3) := by decide +kernel
theorem dX8_init_8 : decode cX8_init 8 = .ok (.dup, 1) := by decide +kernel
theorem dX8_init_9 : decode cX8_init 9 = .ok (.sipush 2501, 3) := by decide +kernel
theorem dX8_init_12 : decode cX8_init 12 = .ok (.invokespecial 11, 3) := by decide +kernel
theorem dX8_init_15 : decode cX8_init 15 = .ok (.putfield 14, 3) := by decide +kernel
theorem dX8_init_18 : decode cX8_init 18 = .ok (.aload_n 0, 1) := by decide +kernel
theorem dX8_init_19 : decode cX8_init 19 = .ok (.new 9, 3) := by decide +kernel
theorem dX8_init_22 : decode cX8_init 22 = .ok (.dup, 1) := by decide +kernel
theorem dX8_init_23 : decode cX8_init 23 = .ok (.sipush 2501, 3) := by decide +kernel
theorem dX8_init_26 : decode cX8_init 26 = .ok (.invokespecial 11, 3) := by decide +kernel
theorem dX8_init_29 : decode cX8_init 29 = .ok (.putfield 20, 3) := by decide +kernel
theorem dX8_init_32 : decode cX8_init 32 = .ok (.aload_n 0, 1) := by decide +kernel
theorem dX8_init_33 : decode cX8_init 33 = .ok (.new 9, 3) := by decide +kernel
theorem dX8_init_36 : decode cX8_init 36 = .ok (.dup, 1) := by decide +kernel
theorem dX8_init_37 : decode cX8_init 37 = .ok (.sipush 2501, 3) := by decide +kernel
theorem dX8_init_40 : decode cX8_init 40 = .ok (.invokespecial 11, 3) := by decide +kernel
theorem dX8_init_43 : decode cX8_init 43 = .ok (.putfield 23, 3) := by decide +kernel
theorem dX8_init_46 : decode cX8_init 46 = .ok (.aload_n 0, 1) := by decide +kernel
theorem dX8_init_47 : decode cX8_init 47 = .ok (.new 9, 3) := by decide +kernel
theorem dX8_init_50 : decode cX8_init 50 = .ok (.dup, 1) := by decide +kernel
theorem dX8_init_51 : decode cX8_init 51 = .ok (.sipush 2501, 3) := by decide +kernel
theorem dX8_init_54 : decode cX8_init 54 = .ok (.invokespecial 11, 3) := by decide +kernel
theorem dX8_init_57 : decode cX8_init 57 = .ok (.putfield 26, 3) := by decide +kernel
theorem dX8_init_60 : decode cX8_init 60 = .ok (.aload_n 0, 1) := by decide +kernel
theorem dX8_init_61 : decode cX8_init 61 = .ok (.new 9, 3) := by decide +kernel
theorem dX8_init_64 : decode cX8_init 64 = .ok (.dup, 1) := by decide +kernel
theorem dX8_init_65 : decode cX8_init 65 = .ok (.sipush 2501, 3) := by decide +kernel
theorem dX8_init_68 : decode cX8_init 68 = .ok (.invokespecial 11, 3) := by decide +kernel
theorem dX8_init_71 : decode cX8_init 71 = .ok (.putfield 29, 3) := by decide +kernel
theorem dX8_init_74 : decode cX8_init 74 = .ok (.aload_n 0, 1) := by decide +kernel
theorem dX8_init_75 : decode cX8_init 75 = .ok (.new 9, 3) := by decide +kernel
theorem dX8_init_78 : decode cX8_init 78 = .ok (.dup, 1) := by decide +kernel
theorem dX8_init_79 : decode cX8_init 79 = .ok (.sipush 2501, 3) := by decide +kernel
theorem dX8_init_82 : decode cX8_init 82 = .ok (.invokespecial 11, 3) := by decide +kernel
theorem dX8_init_85 : decode cX8_init 85 = .ok (.putfield 32, 3) := by decide +kernel
theorem dX8_init_88 : decode cX8_init 88 = .ok (.aload_n 0, 1) := by decide +kernel
theorem dX8_init_89 : decode cX8_init 89 = .ok (.new 9, 3) := by decide +kernel
theorem dX8_init_92 : decode cX8_init 92 = .ok (.dup, 1) := by decide +kernel
theorem dX8_init_93 : decode cX8_init 93 = .ok (.sipush 2501, 3) := by decide +kernel
theorem dX8_init_96 : decode cX8_init 96 = .ok (.invokespecial 11, 3) := by decide +kernel
theorem dX8_init_99 : decode cX8_init 99 = .ok (.putfield 35, 3) := by decide +kernel
theorem dX8_init_102 : decode cX8_init 102 = .ok (.aload_n 0, 1) := by decide +kernel
theorem dX8_init_103 : decode cX8_init 103 = .ok (.new 9, 3) := by decide +kernel
theorem dX8_init_106 : decode cX8_init 106 = .ok (.dup, 1) := by decide +kernel
theorem dX8_init_107 : decode cX8_init 107 = .ok (.sipush 2501, 3) := by decide +kernel
theorem dX8_init_110 : decode cX8_init 110 = .ok (.invokespecial 11, 3) := by decide +kernel
theorem dX8_init_113 : decode cX8_init 113 = .ok (.putfield 38, 3) := by decide +kernel
theorem dX8_init_116 : decode cX8_init 116 = .ok (.aload_n 0, 1) := by decide +kernel
theorem dX8_init_117 : decode cX8_init 117 = .ok (.new 9, 3) := by decide +kernel
theorem dX8_init_120 : decode cX8_init 120 = .ok (.dup, 1) := by decide +kernel
theorem dX8_init_121 : decode cX8_init 121 = .ok (.sipush 24000, 3) := by decide +kernel
theorem dX8_init_124 : decode cX8_init 124 = .ok (.invokespecial 11, 3) := by decide +kernel
theorem dX8_init_127 : decode cX8_init 127 = .ok (.putfield 41, 3) := by decide +kernel
theorem dX8_init_130 : decode cX8_init 130 = .ok (.aload_n 0, 1) := by decide +kernel
theorem dX8_init_131 : decode cX8_init 131 = .ok (.new 9, 3) := by decide +kernel
theorem dX8_init_134 : decode cX8_init 134 = .ok (.dup, 1) := by decide +kernel
theorem dX8_init_135 : decode cX8_init 135 = .ok (.sipush 24000, 3) := by decide +kernel
theorem dX8_init_138 : decode cX8_init 138 = .ok (.invokespecial 11, 3) := by decide +kernel
theorem dX8_init_141 : decode cX8_init 141 = .ok (.putfield 44, 3) := by decide +kernel
theorem dX8_init_144 : decode cX8_init 144 = .ok (.return_, 1) := by decide +kernel
set_option maxHeartbeats 8000000 in
set_option maxRecDepth 100000 in
theorem con_X8 {E : zE} (h0 : Nat) : zCon E yX8_init cX8_init 1 2 20 68018 [.ref h0] [(h0, .inr (8, [.null, .null, .null, .null, .null, .null, .null, .null, .null, .null, .int 0, .int 0, .int 0, .int 0, .int 0, .int 0, .int 0, .int 0]))] (pw_X8 E h0) := by
  refine zCon_of (by decide) rfl (Nat.le_of_ble_eq_true rfl) (fun C A => ?_)
  show zB E C cX8_init RX8 1 2 20 68018 A _ _ 0 0 0 [(0, .ref h0)] []
  refine zb_aload_n 0 dX8_init_0 rfl rfl ?_
  refine zb_obj lo_X8_3 oi1 oi2 (by omega) (Nat.le_of_ble_eq_true rfl) dX8_init_1 ?_
  refine zb_aload_n 0 dX8_init_4 rfl rfl ?_
  refine zb_new mk_X8_9 (by omega) (by omega) dX8_init_5 (fun q1 => ?_)
  refine zb_eq (ws' := [(h0, .inr (8, [.null, .null, .null, .null, .null, .null, .null, .null, .null, .null, .int 0, .int 0, .int 0, .int 0, .int 0, .int 0, .int 0, .int 0])), (q1, .inr (5, [.null]))]) rfl ?_
  refine zb_num (k' := 1) (n' := 1) (by decide) (by decide) ?_
  refine zb_dup dX8_init_8 rfl ?_
  refine zb_sipush (v := 2501) dX8_init_9 (by decide) ?_
  refine zb_call (con_X5 (E := E) q1 2501 2501 (by decide) (by decide) (by decide)) yy_X5_init rfl yi_X5_init li_X8_11 (by omega) rfl rfl (Nat.le_of_ble_eq_true rfl) [1] [0] rfl rfl (by decide) (by decide) (by decide) (by omega) (by omega) dX8_init_12 (fun w1 hw3 => ?_)
  obtain ⟨q2, rfl⟩ := hw3
  refine zb_eq (ws' := [(h0, .inr (8, [.null, .null, .null, .null, .null, .null, .null, .null, .null, .null, .int 0, .int 0, .int 0, .int 0, .int 0, .int 0, .int 0, .int 0])), (q1, .inr (5, [.ref q2])), (q2, .inl (E.2.2.1 0, 2501, .inl (fun _ => 0)))]) rfl ?_
  refine zb_num (k' := 2) (n' := 2502) (by decide) (by decide) ?_
  refine zb_putF (q0 := 0) pf_X8_14 rfl (Nat.le_of_ble_eq_true rfl) dX8_init_15 ?_
  refine zb_eq (ws' := [(h0, .inr (8, [.ref q1, .null, .null, .null, .null, .null, .null, .null, .null, .null, .int 0, .int 0, .int 0, .int 0, .int 0, .int 0, .int 0, .int 0])), (q1, .inr (5, [.ref q2])), (q2, .inl (E.2.2.1 0, 2501, .inl (fun _ => 0)))]) rfl ?_
  refine zb_num (k' := 2) (n' := 2502) (by decide) (by decide) ?_
  refine zb_aload_n 0 dX8_init_18 rfl rfl ?_
  refine zb_new mk_X8_9 (by omega) (by omega) dX8_init_19 (fun q4 => ?_)
  refine zb_eq (ws' := [(h0, .inr (8, [.ref q1, .null, .null, .null, .null, .null, .null, .null, .null, .null, .int 0, .int 0, .int 0, .int 0, .int 0, .int 0, .int 0, .int 0])), (q1, .inr (5, [.ref q2])), (q2, .inl (E.2.2.1 0, 2501, .inl (fun _ => 0))), (q4, .inr (5, [.null]))]) rfl ?_
  refine zb_num (k' := 3) (n' := 2503) (by decide) (by decide) ?_
  refine zb_dup dX8_init_22 rfl ?_
  refine zb_sipush (v := 2501) dX8_init_23 (by decide) ?_
  refine zb_call (con_X5 (E := E) q4 2501 2501 (by decide) (by decide) (by decide)) yy_X5_init rfl yi_X5_init li_X8_11 (by omega) rfl rfl (Nat.le_of_ble_eq_true rfl) [3] [0, 1, 2] rfl rfl (by decide) (by decide) (by decide) (by omega) (by omega) dX8_init_26 (fun w1 hw6 => ?_)
  obtain ⟨q5, rfl⟩ := hw6
  refine zb_eq (ws' := [(h0, .inr (8, [.ref q1, .null, .null, .null, .null, .null, .null, .null, .null, .null, .int 0, .int 0, .int 0, .int 0, .int 0, .int 0, .int 0, .int 0])), (q1, .inr (5, [.ref q2])), (q2, .inl (E.2.2.1 0, 2501, .inl (fun _ => 0))), (q4, .inr (5, [.ref q5])), (q5, .inl (E.2.2.1 0, 2501, .inl (fun _ => 0)))]) rfl ?_
  refine zb_num (k' := 4) (n' := 5004) (by decide) (by decide) ?_
  refine zb_putF (q0 := 0) pf_X8_20 rfl (Nat.le_of_ble_eq_true rfl) dX8_init_29 ?_
  refine zb_eq (ws' := [(h0, .inr (8, [.ref q1, .ref q4, .null, .null, .null, .null, .null, .null, .null, .null, .int 0, .int 0, .int 0, .int 0, .int 0, .int 0, .int 0, .int 0])), (q1, .inr (5, [.ref q2])), (q2, .inl (E.2.2.1 0, 2501, .inl (fun _ => 0))), (q4, .inr (5, [.ref q5])), (q5, .inl (E.2.2.1 0, 2501, .inl (fun _ => 0)))]) rfl ?_
  refine zb_num (k' := 4) (n' := 5004) (by decide) (by decide) ?_
  refine zb_aload_n 0 dX8_init_32 rfl rfl ?_
  refine zb_new mk_X8_9 (by omega) (by omega) dX8_init_33 (fun q7 => ?_)
  refine zb_eq (ws' := [(h0, .inr (8, [.ref q1, .ref q4, .null, .null, .null, .null, .null, .null, .null, .null, .int 0, .int 0, .int 0, .int 0, .int 0, .int 0, .int 0, .int 0])), (q1, .inr (5, [.ref q2])), (q2, .inl (E.2.2.1 0, 2501, .inl (fun _ => 0))), (q4, .inr (5, [.ref q5])), (q5, .inl (E.2.2.1 0, 2501, .inl (fun _ => 0))), (q7, .inr (5, [.null]))]) rfl ?_
  refine zb_num (k' := 5) (n' := 5005) (by decide) (by decide) ?_
  refine zb_dup dX8_init_36 rfl ?_
  refine zb_sipush (v := 2501) dX8_init_37 (by decide) ?_
  refine zb_call (con_X5 (E := E) q7 2501 2501 (by decide) (by decide) (by decide)) yy_X5_init rfl yi_X5_init li_X8_11 (by omega) rfl rfl (Nat.le_of_ble_eq_true rfl) [5] [0, 1, 2, 3, 4] rfl rfl (by decide) (by decide) (by decide) (by omega) (by omega) dX8_init_40 (fun w1 hw9 => ?_)
  obtain ⟨q8, rfl⟩ := hw9
  refine zb_eq (ws' := [(h0, .inr (8, [.ref q1, .ref q4, .null, .null, .null, .null, .null, .null, .null, .null, .int 0, .int 0, .int 0, .int 0, .int 0, .int 0, .int 0, .int 0])), (q1, .inr (5, [.ref q2])), (q2, .inl (E.2.2.1 0, 2501, .inl (fun _ => 0))), (q4, .inr (5, [.ref q5])), (q5, .inl (E.2.2.1 0, 2501, .inl (fun _ => 0))), (q7, .inr (5, [.ref q8])), (q8, .inl (E.2.2.1 0, 2501, .inl (fun _ => 0)))]) rfl ?_
  refine zb_num (k' := 6) (n' := 7506) (by decide) (by decide) ?_
  refine zb_putF (q0 := 0) pf_X8_23 rfl (Nat.le_of_ble_eq_true rfl) dX8_init_43 ?_
  refine zb_eq (ws' := [(h0, .inr (8, [.ref q1, .ref q4, .ref q7, .null, .null, .null, .null, .null, .null, .null, .int 0, .int 0, .int 0, .int 0, .int 0, .int 0, .int 0, .int 0])), (q1, .inr (5, [.ref q2])), (q2, .inl (E.2.2.1 0, 2501, .inl (fun _ => 0))), (q4, .inr (5, [.ref q5])), (q5, .inl (E.2.2.1 0, 2501, .inl (fun _ => 0))), (q7, .inr (5, [.ref q8])), (q8, .inl (E.2.2.1 0, 2501, .inl (fun _ => 0)))]) rfl ?_
  refine zb_num (k' := 6) (n' := 7506) (by decide) (by decide) ?_
  refine zb_aload_n 0 dX8_init_46 rfl rfl ?_
  refine zb_new mk_X8_9 (by omega) (by omega) dX8_init_47 (fun q10 => ?_)
  refine zb_eq (ws' := [(h0, .inr (8, [.ref q1, .ref q4, .ref q7, .null, .null, .null, .null, .null, .null, .null, .int 0, .int 0, .int 0, .int 0, .int 0, .int 0, .int 0, .int 0])), (q1, .inr (5, [.ref q2])), (q2, .inl (E.2.2.1 0, 2501, .inl (fun _ => 0))), (q4, .inr (5, [.ref q5])), (q5, .inl (E.2.2.1 0, 2501, .inl (fun _ => 0))), (q7, .inr (5, [.ref q8])), (q8, .inl (E.2.2.1 0, 2501, .inl (fun _ => 0))), (q10, .inr (5, [.null]))]) rfl ?_
  refine zb_num (k' := 7) (n' := 7507) (by decide) (by decide) ?_
  refine zb_dup dX8_init_50 rfl ?_
  refine zb_sipush (v := 2501) dX8_init_51 (by decide) ?_
  refine zb_call (con_X5 (E := E) q10 2501 2501 (by decide) (by decide) (by decide)) yy_X5_init rfl yi_X5_init li_X8_11 (by omega) rfl rfl (Nat.le_of_ble_eq_true rfl) [7] [0, 1, 2, 3, 4, 5, 6] rfl rfl (by decide) (by decide) (by decide) (by omega) (by omega) dX8_init_54 (fun w1 hw12 => ?_)
  obtain ⟨q11, rfl⟩ := hw12
  refine zb_eq (ws' := [(h0, .inr (8, [.ref q1, .ref q4, .ref q7, .null, .null, .null, .null, .null, .null, .null, .int 0, .int 0, .int 0, .int 0, .int 0, .int 0, .int 0, .int 0])), (q1, .inr (5, [.ref q2])), (q2, .inl (E.2.2.1 0, 2501, .inl (fun _ => 0))), (q4, .inr (5, [.ref q5])), (q5, .inl (E.2.2.1 0, 2501, .inl (fun _ => 0))), (q7, .inr (5, [.ref q8])), (q8, .inl (E.2.2.1 0, 2501, .inl (fun _ => 0))), (q10, .inr (5, [.ref q11])), (q11, .inl (E.2.2.1 0, 2501, .inl (fun _ => 0)))]) rfl ?_
  refine zb_num (k' := 8) (n' := 10008) (by decide) (by decide) ?_
  refine zb_putF (q0 := 0) pf_X8_26 rfl (Nat.le_of_ble_eq_true rfl) dX8_init_57 ?_
  refine zb_eq (ws' := [(h0, .inr (8, [.ref q1, .ref q4, .ref q7, .ref q10, .null, .null, .null, .null, .null, .null, .int 0, .int 0, .int 0, .int 0, .int 0, .int 0, .int 0, .int 0])), (q1, .inr (5, [.ref q2])), (q2, .inl (E.2.2.1 0, 2501, .inl (fun _ => 0))), (q4, .inr (5, [.ref q5])), (q5, .inl (E.2.2.1 0, 2501, .inl (fun _ => 0))), (q7, .inr (5, [.ref q8])), (q8, .inl (E.2.2.1 0, 2501, .inl (fun _ => 0))), (q10, .inr (5, [.ref q11])), (q11, .inl (E.2.2.1 0, 2501, .inl (fun _ => 0)))]) rfl ?_
  refine zb_num (k' := 8) (n' := 10008) (by decide) (by decide) ?_
  refine zb_aload_n 0 dX8_init_60 rfl rfl ?_
  refine zb_new mk_X8_9 (by omega) (by omega) dX8_init_61 (fun q13 => ?_)
  refine zb_eq (ws' := [(h0, .inr (8, [.ref q1, .ref q4, .ref q7, .ref q10, .null, .null, .null, .null, .null, .null, .int 0, .int 0, .int 0, .int 0, .int 0, .int 0, .int 0, .int 0])), (q1, .inr (5, [.ref q2])), (q2, .inl (E.2.2.1 0, 2501, .inl (fun _ => 0))), (q4, .inr (5, [.ref q5])), (q5, .inl (E.2.2.1 0, 2501, .inl (fun _ => 0))), (q7, .inr (5, [.ref q8])), (q8, .inl (E.2.2.1 0, 2501, .inl (fun _ => 0))), (q10, .inr (5, [.ref q11])), (q11, .inl (E.2.2.1 0, 2501, .inl (fun _ => 0))), (q13, .inr (5, [.null]))]) rfl ?_
  refine zb_num (k' := 9) (n' := 10009) (by decide) (by decide) ?_
  refine zb_dup dX8_init_64 rfl ?_
  refine zb_sipush (v := 2501) dX8_init_65 (by decide) ?_
  refine zb_call (con_X5 (E := E) q13 2501 2501 (by decide) (by decide) (by decide)) yy_X5_init rfl yi_X5_init li_X8_11 (by omega) rfl rfl (Nat.le_of_ble_eq_true rfl) [9] [0, 1, 2, 3, 4, 5, 6, 7, 8] rfl rfl (by decide) (by decide) (by decide) (by omega) (by omega) dX8_init_68 (fun w1 hw15 => ?_)
  obtain ⟨q14, rfl⟩ := hw15
  refine zb_eq (ws' := [(h0, .inr (8, [.ref q1, .ref q4, .ref q7, .ref q10, .null, .null, .null, .null, .null, .null, .int 0, .int 0, .int 0, .int 0, .int 0, .int 0, .int 0, .int 0])), (q1, .inr (5, [.ref q2])), (q2, .inl (E.2.2.1 0, 2501, .inl (fun _ => 0))), (q4, .inr (5, [.ref q5])), (q5, .inl (E.2.2.1 0, 2501, .inl (fun _ => 0))), (q7, .inr (5, [.ref q8])), (q8, .inl (E.2.2.1 0, 2501, .inl (fun _ => 0))), (q10, .inr (5, [.ref q11])), (q11, .inl (E.2.2.1 0, 2501, .inl (fun _ => 0))), (q13, .inr (5, [.ref q14])), (q14, .inl (E.2.2.1 0, 2501, .inl (fun _ => 0)))]) rfl ?_
  refine zb_num (k' := 10) (n' := 12510) (by decide) (by decide) ?_
  refine zb_putF (q0 := 0) pf_X8_29 rfl (Nat.le_of_ble_eq_true rfl) dX8_init_71 ?_
  refine zb_eq (ws' := [(h0, .inr (8, [.ref q1, .ref q4, .ref q7, .ref q10, .ref q13, .null, .null, .null, .null, .null, .int 0, .int 0, .int 0, .int 0, .int 0, .int 0, .int 0, .int 0])), (q1, .inr (5, [.ref q2])), (q2, .inl (E.2.2.1 0, 2501, .inl (fun _ => 0))), (q4, .inr (5, [.ref q5])), (q5, .inl (E.2.2.1 0, 2501, .inl (fun _ => 0))), (q7, .inr (5, [.ref q8])), (q8, .inl (E.2.2.1 0, 2501, .inl (fun _ => 0))), (q10, .inr (5, [.ref q11])), (q11, .inl (E.2.2.1 0, 2501, .inl (fun _ => 0))), (q13, .inr (5, [.ref q14])), (q14, .inl (E.2.2.1 0, 2501, .inl (fun _ => 0)))]) rfl ?_
  refine zb_num (k' := 10) (n' := 12510) (by decide) (by decide) ?_
  refine zb_aload_n 0 dX8_init_74 rfl rfl ?_
  refine zb_new mk_X8_9 (by omega) (by omega) dX8_init_75 (fun q16 => ?_)
  refine zb_eq (ws' := [(h0, .inr (8, [.ref q1, .ref q4, .ref q7, .ref q10, .ref q13, .null, .null, .null, .null, .null, .int 0, .int 0, .int 0, .int 0, .int 0, .int 0, .int 0, .int 0])), (q1, .inr (5, [.ref q2])), (q2, .inl (E.2.2.1 0, 2501, .inl (fun _ => 0))), (q4, .inr (5, [.ref q5])), (q5, .inl (E.2.2.1 0, 2501, .inl (fun _ => 0))), (q7, .inr (5, [.ref q8])), (q8, .inl (E.2.2.1 0, 2501, .inl (fun _ => 0))), (q10, .inr (5, [.ref q11])), (q11, .inl (E.2.2.1 0, 2501, .inl (fun _ => 0))), (q13, .inr (5, [.ref q14])), (q14, .inl (E.2.2.1 0, 2501, .inl (fun _ => 0))), (q16, .inr (5, [.null]))]) rfl ?_
  refine zb_num (k' := 11) (n' := 12511) (by decide) (by decide) ?_
  refine zb_dup dX8_init_78 rfl ?_
  refine zb_sipush (v := 2501) dX8_init_79 (by decide) ?_
  refine zb_call (con_X5 (E := E) q16 2501 2501 (by decide) (by decide) (by decide)) yy_X5_init rfl yi_X5_init li_X8_11 (by omega) rfl rfl (Nat.le_of_ble_eq_true rfl) [11] [0, 1, 2, 3, 4, 5, 6, 7, 8, 9, 10] rfl rfl (by decide) (by decide) (by decide) (by omega) (by omega) dX8_init_82 (fun w1 hw18 => ?_)
  obtain ⟨q17, rfl⟩ := hw18
  refine zb_eq (ws' := [(h0, .inr (8, [.ref q1, .ref q4, .ref q7, .ref q10, .ref q13, .null, .null, .null, .null, .null, .int 0, .int 0, .int 0, .int 0, .int 0, .int 0, .int 0, .int 0])), (q1, .inr (5, [.ref q2])), (q2, .inl (E.2.2.1 0, 2501, .inl (fun _ => 0))), (q4, .inr (5, [.ref q5])), (q5, .inl (E.2.2.1 0, 2501, .inl (fun _ => 0))), (q7, .inr (5, [.ref q8])), (q8, .inl (E.2.2.1 0, 2501, .inl (fun _ => 0))), (q10, .inr (5, [.ref q11])), (q11, .inl (E.2.2.1 0, 2501, .inl (fun _ => 0))), (q13, .inr (5, [.ref q14])), (q14, .inl (E.2.2.1 0, 2501, .inl (fun _ => 0))), (q16, .inr (5, [.ref q17])), (q17, .inl (E.2.2.1 0, 2501, .inl (fun _ => 0)))]) rfl ?_
  refine zb_num (k' := 12) (n' := 15012) (by decide) (by decide) ?_
  refine zb_putF (q0 := 0) pf_X8_32 rfl (Nat.le_of_ble_eq_true rfl) dX8_init_85 ?_
  refine zb_eq (ws' := [(h0, .inr (8, [.ref q1, .ref q4, .ref q7, .ref q10, .ref q13, .ref q16, .null, .null, .null, .null, .int 0, .int 0, .int 0, .int 0, .int 0, .int 0, .int 0, .int 0])), (q1, .inr (5, [.ref q2])), (q2, .inl (E.2.2.1 0, 2501, .inl (fun _ => 0))), (q4, .inr (5, [.ref q5])), (q5, .inl (E.2.2.1 0, 2501, .inl (fun _ => 0))), (q7, .inr (5, [.ref q8])), (q8, .inl (E.2.2.1 0, 2501, .inl (fun _ => 0))), (q10, .inr (5, [.ref q11])), (q11, .inl (E.2.2.1 0, 2501, .inl (fun _ => 0))), (q13, .inr (5, [.ref q14])), (q14, .inl (E.2.2.1 0, 2501, .inl (fun _ => 0))), (q16, .inr (5, [.ref q17])), (q17, .inl (E.2.2.1 0, 2501, .inl (fun _ => 0)))]) rfl ?_
  refine zb_num (k' := 12) (n' := 15012) (by decide) (by decide) ?_
  refine zb_aload_n 0 dX8_init_88 rfl rfl ?_
  refine zb_new mk_X8_9 (by omega) (by omega) dX8_init_89 (fun q19 => ?_)
  refine zb_eq (ws' := [(h0, .inr (8, [.ref q1, .ref q4, .ref q7, .ref q10, .ref q13, .ref q16, .null, .null, .null, .null, .int 0, .int 0, .int 0, .int 0, .int 0, .int 0, .int 0, .int 0])), (q1, .inr (5, [.ref q2])), (q2, .inl (E.2.2.1 0, 2501, .inl (fun _ => 0))), (q4, .inr (5, [.ref q5])), (q5, .inl (E.2.2.1 0, 2501, .inl (fun _ => 0))), (q7, .inr (5, [.ref q8])), (q8, .inl (E.2.2.1 0, 2501, .inl (fun _ => 0))), (q10, .inr (5, [.ref q11])), (q11, .inl (E.2.2.1 0, 2501, .inl (fun _ => 0))), (q13, .inr (5, [.ref q14])), (q14, .inl (E.2.2.1 0, 2501, .inl (fun _ => 0))), (q16, .inr (5, [.ref q17])), (q17, .inl (E.2.2.1 0, 2501, .inl (fun _ => 0))), (q19, .inr (5, [.null]))]) rfl ?_
  refine zb_num (k' := 13) (n' := 15013) (by decide) (by decide) ?_
  refine zb_dup dX8_init_92 rfl ?_
  refine zb_sipush (v := 2501) dX8_init_93 (by decide) ?_
  refine zb_call (con_X5 (E := E) q19 2501 2501 (by decide) (by decide) (by decide)) yy_X5_init rfl yi_X5_init li_X8_11 (by omega) rfl rfl (Nat.le_of_ble_eq_true rfl) [13] [0, 1, 2, 3, 4, 5, 6, 7, 8, 9, 10, 11, 12] rfl rfl (by decide) (by decide) (by decide) (by omega) (by omega) dX8_init_96 (fun w1 hw21 => ?_)
  obtain ⟨q20, rfl⟩ := hw21
  refine zb_eq (ws' := [(h0, .inr (8, [.ref q1, .ref q4, .ref q7, .ref q10, .ref q13, .ref q16, .null, .null, .null, .null, .int 0, .int 0, .int 0, .int 0, .int 0, .int 0, .int 0, .int 0])), (q1, .inr (5, [.ref q2])), (q2, .inl (E.2.2.1 0, 2501, .inl (fun _ => 0))), (q4, .inr (5, [.ref q5])), (q5, .inl (E.2.2.1 0, 2501, .inl (fun _ => 0))), (q7, .inr (5, [.ref q8])), (q8, .inl (E.2.2.1 0, 2501, .inl (fun _ => 0))), (q10, .inr (5, [.ref q11])), (q11, .inl (E.2.2.1 0, 2501, .inl (fun _ => 0))), (q13, .inr (5, [.ref q14])), (q14, .inl (E.2.2.1 0, 2501, .inl (fun _ => 0))), (q16, .inr (5, [.ref q17])), (q17, .inl (E.2.2.1 0, 2501, .inl (fun _ => 0))), (q19, .inr (5, [.ref q20])), (q20, .inl (E.2.2.1 0, 2501, .inl (fun _ => 0)))]) rfl ?_
  refine zb_num (k' := 14) (n' := 17514) (by decide) (by decide) ?_
  refine zb_putF (q0 := 0) pf_X8_35 rfl (Nat.le_of_ble_eq_true rfl) dX8_init_99 ?_
  refine zb_eq (ws' := [(h0, .inr (8, [.ref q1, .ref q4, .ref q7, .ref q10, .ref q13, .ref q16, .ref q19, .null, .null, .null, .int 0, .int 0, .int 0, .int 0, .int 0, .int 0, .int 0, .int 0])), (q1, .inr (5, [.ref q2])), (q2, .inl (E.2.2.1 0, 2501, .inl (fun _ => 0))), (q4, .inr (5, [.ref q5])), (q5, .inl (E.2.2.1 0, 2501, .inl (fun _ => 0))), (q7, .inr (5, [.ref q8])), (q8, .inl (E.2.2.1 0, 2501, .inl (fun _ => 0))), (q10, .inr (5, [.ref q11])), (q11, .inl (E.2.2.1 0, 2501, .inl (fun _ => 0))), (q13, .inr (5, [.ref q14])), (q14, .inl (E.2.2.1 0, 2501, .inl (fun _ => 0))), (q16, .inr (5, [.ref q17])), (q17, .inl (E.2.2.1 0, 2501, .inl (fun _ => 0))), (q19, .inr (5, [.ref q20])), (q20, .inl (E.2.2.1 0, 2501, .inl (fun _ => 0)))]) rfl ?_
  refine zb_num (k' := 14) (n' := 17514) (by decide) (by decide) ?_
  refine zb_aload_n 0 dX8_init_102 rfl rfl ?_
  refine zb_new mk_X8_9 (by omega) (by omega) dX8_init_103 (fun q22 => ?_)
  refine zb_eq (ws' := [(h0, .inr (8, [.ref q1, .ref q4, .ref q7, .ref q10, .ref q13, .ref q16, .ref q19, .null, .null, .null, .int 0, .int 0, .int 0, .int 0, .int 0, .int 0, .int 0, .int 0])), (q1, .inr (5, [.ref q2])), (q2, .inl (E.2.2.1 0, 2501, .inl (fun _ => 0))), (q4, .inr (5, [.ref q5])), (q5, .inl (E.2.2.1 0, 2501, .inl (fun _ => 0))), (q7, .inr (5, [.ref q8])), (q8, .inl (E.2.2.1 0, 2501, .inl (fun _ => 0))), (q10, .inr (5, [.ref q11])), (q11, .inl (E.2.2.1 0, 2501, .inl (fun _ => 0))), (q13, .inr (5, [.ref q14])), (q14, .inl (E.2.2.1 0, 2501, .inl (fun _ => 0))), (q16, .inr (5, [.ref q17])), (q17, .inl (E.2.2.1 0, 2501, .inl (fun _ => 0))), (q19, .inr (5, [.ref q20])), (q20, .inl (E.2.2.1 0, 2501, .inl (fun _ => 0))), (q22, .inr (5, [.null]))]) rfl ?_
  refine zb_num (k' := 15) (n' := 17515) (by decide) (by decide) ?_
  refine zb_dup dX8_init_106 rfl ?_
  refine zb_sipush (v := 2501) dX8_init_107 (by decide) ?_
  refine zb_call (con_X5 (E := E) q22 2501 2501 (by decide) (by decide) (by decide)) yy_X5_init rfl yi_X5_init li_X8_11 (by omega) rfl rfl (Nat.le_of_ble_eq_true rfl) [15] [0, 1, 2, 3, 4, 5, 6, 7, 8, 9, 10, 11, 12, 13, 14] rfl rfl (by decide) (by decide) (by decide) (by omega) (by omega) dX8_init_110 (fun w1 hw24 => ?_)
  obtain ⟨q23, rfl⟩ := hw24
  refine zb_eq (ws' := [(h0, .inr (8, [.ref q1, .ref q4, .ref q7, .ref q10, .ref q13, .ref q16, .ref q19, .null, .null, .null, .int 0, .int 0, .int 0, .int 0, .int 0, .int 0, .int 0, .int 0])), (q1, .inr (5, [.ref q2])), (q2, .inl (E.2.2.1 0, 2501, .inl (fun _ => 0))), (q4, .inr (5, [.ref q5])), (q5, .inl (E.2.2.1 0, 2501, .inl (fun _ => 0))), (q7, .inr (5, [.ref q8])), (q8, .inl (E.2.2.1 0, 2501, .inl (fun _ => 0))), (q10, .inr (5, [.ref q11])), (q11, .inl (E.2.2.1 0, 2501, .inl (fun _ => 0))), (q13, .inr (5, [.ref q14])), (q14, .inl (E.2.2.1 0, 2501, .inl (fun _ => 0))), (q16, .inr (5, [.ref q17])), (q17, .inl (E.2.2.1 0, 2501, .inl (fun _ => 0))), (q19, .inr (5, [.ref q20])), (q20, .inl (E.2.2.1 0, 2501, .inl (fun _ => 0))), (q22, .inr (5, [.ref q23])), (q23, .inl (E.2.2.1 0, 2501, .inl (fun _ => 0)))]) rfl ?_
  refine zb_num (k' := 16) (n' := 20016) (by decide) (by decide) ?_
  refine zb_putF (q0 := 0) pf_X8_38 rfl (Nat.le_of_ble_eq_true rfl) dX8_init_113 ?_
  refine zb_eq (ws' := [(h0, .inr (8, [.ref q1, .ref q4, .ref q7, .ref q10, .ref q13, .ref q16, .ref q19, .ref q22, .null, .null, .int 0, .int 0, .int 0, .int 0, .int 0, .int 0, .int 0, .int 0])), (q1, .inr (5, [.ref q2])), (q2, .inl (E.2.2.1 0, 2501, .inl (fun _ => 0))), (q4, .inr (5, [.ref q5])), (q5, .inl (E.2.2.1 0, 2501, .inl (fun _ => 0))), (q7, .inr (5, [.ref q8])), (q8, .inl (E.2.2.1 0, 2501, .inl (fun _ => 0))), (q10, .inr (5, [.ref q11])), (q11, .inl (E.2.2.1 0, 2501, .inl (fun _ => 0))), (q13, .inr (5, [.ref q14])), (q14, .inl (E.2.2.1 0, 2501, .inl (fun _ => 0))), (q16, .inr (5, [.ref q17])), (q17, .inl (E.2.2.1 0, 2501, .inl (fun _ => 0))), (q19, .inr (5, [.ref q20])), (q20, .inl (E.2.2.1 0, 2501, .inl (fun _ => 0))), (q22, .inr (5, [.ref q23])), (q23, .inl (E.2.2.1 0, 2501, .inl (fun _ => 0)))]) rfl ?_
  refine zb_num (k' := 16) (n' := 20016) (by decide) (by decide) ?_
  refine zb_aload_n 0 dX8_init_116 rfl rfl ?_
  refine zb_new mk_X8_9 (by omega) (by omega) dX8_init_117 (fun q25 => ?_)
  refine zb_eq (ws' := [(h0, .inr (8, [.ref q1, .ref q4, .ref q7, .ref q10, .ref q13, .ref q16, .ref q19, .ref q22, .null, .null, .int 0, .int 0, .int 0, .int 0, .int 0, .int 0, .int 0, .int 0])), (q1, .inr (5, [.ref q2])), (q2, .inl (E.2.2.1 0, 2501, .inl (fun _ => 0))), (q4, .inr (5, [.ref q5])), (q5, .inl (E.2.2.1 0, 2501, .inl (fun _ => 0))), (q7, .inr (5, [.ref q8])), (q8, .inl (E.2.2.1 0, 2501, .inl (fun _ => 0))), (q10, .inr (5, [.ref q11])), (q11, .inl (E.2.2.1 0, 2501, .inl (fun _ => 0))), (q13, .inr (5, [.ref q14])), (q14, .inl (E.2.2.1 0, 2501, .inl (fun _ => 0))), (q16, .inr (5, [.ref q17])), (q17, .inl (E.2.2.1 0, 2501, .inl (fun _ => 0))), (q19, .inr (5, [.ref q20])), (q20, .inl (E.2.2.1 0, 2501, .inl (fun _ => 0))), (q22, .inr (5, [.ref q23])), (q23, .inl (E.2.2.1 0, 2501, .inl (fun _ => 0))), (q25, .inr (5, [.null]))]) rfl ?_
  refine zb_num (k' := 17) (n' := 20017) (by decide) (by decide) ?_
  refine zb_dup dX8_init_120 rfl ?_
  refine zb_sipush (v := 24000) dX8_init_121 (by decide) ?_
  refine zb_call (con_X5 (E := E) q25 24000 24000 (by decide) (by decide) (by decide)) yy_X5_init rfl yi_X5_init li_X8_11 (by omega) rfl rfl (Nat.le_of_ble_eq_true rfl) [17] [0, 1, 2, 3, 4, 5, 6, 7, 8, 9, 10, 11, 12, 13, 14, 15, 16] rfl rfl (by decide) (by decide) (by decide) (by omega) (by omega) dX8_init_124 (fun w1 hw27 => ?_)
  obtain ⟨q26, rfl⟩ := hw27
  refine zb_eq (ws' := [(h0, .inr (8, [.ref q1, .ref q4, .ref q7, .ref q10, .ref q13, .ref q16, .ref q19, .ref q22, .null, .null, .int 0, .int 0, .int 0, .int 0, .int 0, .int 0, .int 0, .int 0])), (q1, .inr (5, [.ref q2])), (q2, .inl (E.2.2.1 0, 2501, .inl (fun _ => 0))), (q4, .inr (5, [.ref q5])), (q5, .inl (E.2.2.1 0, 2501, .inl (fun _ => 0))), (q7, .inr (5, [.ref q8])), (q8, .inl (E.2.2.1 0, 2501, .inl (fun _ => 0))), (q10, .inr (5, [.ref q11])), (q11, .inl (E.2.2.1 0, 2501, .inl (fun _ => 0))), (q13, .inr (5, [.ref q14])), (q14, .inl (E.2.2.1 0, 2501, .inl (fun _ => 0))), (q16, .inr (5, [.ref q17])), (q17, .inl (E.2.2.1 0, 2501, .inl (fun _ => 0))), (q19, .inr (5, [.ref q20])), (q20, .inl (E.2.2.1 0, 2501, .inl (fun _ => 0))), (q22, .inr (5, [.ref q23])), (q23, .inl (E.2.2.1 0, 2501, .inl (fun _ => 0))), (q25, .inr (5, [.ref q26])), (q26, .inl (E.2.2.1 0, 24000, .inl (fun _ => 0)))]) rfl ?_
  refine zb_num (k' := 18) (n' := 44017) (by decide) (by decide) ?_
  refine zb_putF (q0 := 0) pf_X8_41 rfl (Nat.le_of_ble_eq_true rfl) dX8_init_127 ?_
  refine zb_eq (ws' := [(h0, .inr (8, [.ref q1, .ref q4, .ref q7, .ref q10, .ref q13, .ref q16, .ref q19, .ref q22, .ref q25, .null, .int 0, .int 0, .int 0, .int 0, .int 0, .int 0, .int 0, .int 0])), (q1, .inr (5, [.ref q2])), (q2, .inl (E.2.2.1 0, 2501, .inl (fun _ => 0))), (q4, .inr (5, [.ref q5])), (q5, .inl (E.2.2.1 0, 2501, .inl (fun _ => 0))), (q7, .inr (5, [.ref q8])), (q8, .inl (E.2.2.1 0, 2501, .inl (fun _ => 0))), (q10, .inr (5, [.ref q11])), (q11, .inl (E.2.2.1 0, 2501, .inl (fun _ => 0))), (q13, .inr (5, [.ref q14])), (q14, .inl (E.2.2.1 0, 2501, .inl (fun _ => 0))), (q16, .inr (5, [.ref q17])), (q17, .inl (E.2.2.1 0, 2501, .inl (fun _ => 0))), (q19, .inr (5, [.ref q20])), (q20, .inl (E.2.2.1 0, 2501, .inl (fun _ => 0))), (q22, .inr (5, [.ref q23])), (q23, .inl (E.2.2.1 0, 2501, .inl (fun _ => 0))), (q25, .inr (5, [.ref q26])), (q26, .inl (E.2.2.1 0, 24000, .inl (fun _ => 0)))]) rfl ?_
  refine zb_num (k' := 18) (n' := 44017) (by decide) (by decide) ?_
  refine zb_aload_n 0 dX8_init_130 rfl rfl ?_
  refine zb_new mk_X8_9 (by omega) (by omega) dX8_init_131 (fun q28 => ?_)
  refine zb_eq (ws' := [(h0, .inr (8, [.ref q1, .ref q4, .ref q7, .ref q10, .ref q13, .ref q16, .ref q19, .ref q22, .ref q25, .null, .int 0, .int 0, .int 0, .int 0, .int 0, .int 0, .int 0, .int 0])), (q1, .inr (5, [.ref q2])), (q2, .inl (E.2.2.1 0, 2501, .inl (fun _ => 0))), (q4, .inr (5, [.ref q5])), (q5, .inl (E.2.2.1 0, 2501, .inl (fun _ => 0))), (q7, .inr (5, [.ref q8])), (q8, .inl (E.2.2.1 0, 2501, .inl (fun _ => 0))), (q10, .inr (5, [.ref q11])), (q11, .inl (E.2.2.1 0, 2501, .inl (fun _ => 0))), (q13, .inr (5, [.ref q14])), (q14, .inl (E.2.2.1 0, 2501, .inl (fun _ => 0))), (q16, .inr (5, [.ref q17])), (q17, .inl (E.2.2.1 0, 2501, .inl (fun _ => 0))), (q19, .inr (5, [.ref q20])), (q20, .inl (E.2.2.1 0, 2501, .inl (fun _ => 0))), (q22, .inr (5, [.ref q23])), (q23, .inl (E.2.2.1 0, 2501, .inl (fun _ => 0))), (q25, .inr (5, [.ref q26])), (q26, .inl (E.2.2.1 0, 24000, .inl (fun _ => 0))), (q28, .inr (5, [.null]))]) rfl ?_
  refine zb_num (k' := 19) (n' := 44018) (by decide) (by decide) ?_
  refine zb_dup dX8_init_134 rfl ?_
  refine zb_sipush (v := 24000) dX8_init_135 (by decide) ?_
  refine zb_call (con_X5 (E := E) q28 24000 24000 (by decide) (by decide) (by decide)) yy_X5_init rfl yi_X5_init li_X8_11 (by omega) rfl rfl (Nat.le_of_ble_eq_true rfl) [19] [0, 1, 2, 3, 4, 5, 6, 7, 8, 9, 10, 11, 12, 13, 14, 15, 16, 17, 18] rfl rfl (by decide) (by decide) (by decide) (by omega) (by omega) dX8_init_138 (fun w1 hw30 => ?_)
  obtain ⟨q29, rfl⟩ := hw30
  refine zb_eq (ws' := [(h0, .inr (8, [.ref q1, .ref q4, .ref q7, .ref q10, .ref q13, .ref q16, .ref q19, .ref q22, .ref q25, .null, .int 0, .int 0, .int 0, .int 0, .int 0, .int 0, .int 0, .int 0])), (q1, .inr (5, [.ref q2])), (q2, .inl (E.2.2.1 0, 2501, .inl (fun _ => 0))), (q4, .inr (5, [.ref q5])), (q5, .inl (E.2.2.1 0, 2501, .inl (fun _ => 0))), (q7, .inr (5, [.ref q8])), (q8, .inl (E.2.2.1 0, 2501, .inl (fun _ => 0))), (q10, .inr (5, [.ref q11])), (q11, .inl (E.2.2.1 0, 2501, .inl (fun _ => 0))), (q13, .inr (5, [.ref q14])), (q14, .inl (E.2.2.1 0, 2501, .inl (fun _ => 0))), (q16, .inr (5, [.ref q17])), (q17, .inl (E.2.2.1 0, 2501, .inl (fun _ => 0))), (q19, .inr (5, [.ref q20])), (q20, .inl (E.2.2.1 0, 2501, .inl (fun _ => 0))), (q22, .inr (5, [.ref q23])), (q23, .inl (E.2.2.1 0, 2501, .inl (fun _ => 0))), (q25, .inr (5, [.ref q26])), (q26, .inl (E.2.2.1 0, 24000, .inl (fun _ => 0))), (q28, .inr (5, [.ref q29])), (q29, .inl (E.2.2.1 0, 24000, .inl (fun _ => 0)))]) rfl ?_
  refine zb_num (k' := 20) (n' := 68018) (by decide) (by decide) ?_
  refine zb_putF (q0 := 0) pf_X8_44 rfl (Nat.le_of_ble_eq_true rfl) dX8_init_141 ?_
  refine zb_eq (ws' := [(h0, .inr (8, [.ref q1, .ref q4, .ref q7, .ref q10, .ref q13, .ref q16, .ref q19, .ref q22, .ref q25, .ref q28, .int 0, .int 0, .int 0, .int 0, .int 0, .int 0, .int 0, .int 0])), (q1, .inr (5, [.ref q2])), (q2, .inl (E.2.2.1 0, 2501, .inl (fun _ => 0))), (q4, .inr (5, [.ref q5])), (q5, .inl (E.2.2.1 0, 2501, .inl (fun _ => 0))), (q7, .inr (5, [.ref q8])), (q8, .inl (E.2.2.1 0, 2501, .inl (fun _ => 0))), (q10, .inr (5, [.ref q11])), (q11, .inl (E.2.2.1 0, 2501, .inl (fun _ => 0))), (q13, .inr (5, [.ref q14])), (q14, .inl (E.2.2.1 0, 2501, .inl (fun _ => 0))), (q16, .inr (5, [.ref q17])), (q17, .inl (E.2.2.1 0, 2501, .inl (fun _ => 0))), (q19, .inr (5, [.ref q20])), (q20, .inl (E.2.2.1 0, 2501, .inl (fun _ => 0))), (q22, .inr (5, [.ref q23])), (q23, .inl (E.2.2.1 0, 2501, .inl (fun _ => 0))), (q25, .inr (5, [.ref q26])), (q26, .inl (E.2.2.1 0, 24000, .inl (fun _ => 0))), (q28, .inr (5, [.ref q29])), (q29, .inl (E.2.2.1 0, 24000, .inl (fun _ => 0)))]) rfl ?_
  refine zb_num (k' := 20) (n' := 68018) (by decide) (by decide) ?_
  exact zb_vret ⟨q1, q2, q4, q5, q7, q8, q10, q11, q13, q14, q16, q17, q19, q20, q22, q23, q25, q26, q28, q29, rfl⟩ (by omega) (by omega) dX8_init_144
def pw_X9 (E : zE) (h0 : Nat) (w : va_W) : Prop := ∃ q1 q2 q4 q5 q7 q8 q10 q11 q13 q14 q16 q17 q19 q20 q22 q23 q25 q26 q28 q29 q31 q32 q34 q35 q37 q38 q40 q41 q43 q44 : Nat, w = [(h0, .inr (9, [.ref q1, .ref q4, .ref q7, .ref q10, .ref q13, .ref q16, .ref q19, .ref q22, .ref q25, .ref q28, .ref q31, .ref q34, .ref q37, .ref q40, .ref q43, .int 0, .int 0])), (q1, .inr (5, [.ref q2])), (q2, .inl (E.2.2.1 0, 1000, .inl (fun _ => 0))), (q4, .inr (5, [.ref q5])), (q5, .inl (E.2.2.1 0, 1000, .inl (fun _ => 0))), (q7, .inr (5, [.ref q8])), (q8, .inl (E.2.2.1 0, 1000, .inl (fun _ => 0))), (q10, .inr (5, [.ref q11])), (q11, .inl (E.2.2.1 0, 1000, .inl (fun _ => 0))), (q13, .inr (5, [.ref q14])), (q14, .inl (E.2.2.1 0, 1000, .inl (fun _ => 0))), (q16, .inr (5, [.ref q17])), (q17, .inl (E.2.2.1 0, 1000, .inl (fun _ => 0))), (q19, .inr (5, [.ref q20])), (q20, .inl (E.2.2.1 0, 1000, .inl (fun _ => 0))), (q22, .inr (5, [.ref q23])), (q23, .inl (E.2.2.1 0, 1000, .inl (fun _ => 0))), (q25, .inr (5, [.ref q26])), (q26, .inl (E.2.2.1 0, 1000, .inl (fun _ => 0))), (q28, .inr (5, [.ref q29])), (q29, .inl (E.2.2.1 0, 1000, .inl (fun _ => 0))), (q31, .inr (5, [.ref q32])), (q32, .inl (E.2.2.1 0, 1000, .inl (fun _ => 0))), (q34, .inr (5, [.ref q35])), (q35, .inl (E.2.2.1 0, 1600, .inl (fun _ => 0))), (q37, .inr (5, [.ref q38])), (q38, .inl (E.2.2.1 0, 1600, .inl (fun _ => 0))), (q40, .inr (5, [.ref q41])), (q41, .inl (E.2.2.1 0, 1600, .inl (fun _ => 0))), (q43, .inr (5, [.ref q44])), (q44, .inl (E.2.2.1 0, 1600, .inl (fun _ => 0)))]
theorem dX9_init_0 : decode cX9_init 0 = .ok (.aload_n 0, 1) := by decide +kernel
theorem dX9_init_1 : decode cX9_init 1 = .ok (.invokespecial 3, 3) := by decide +kernel
theorem dX9_init_4 : decode cX9_init 4 = .ok (.aload_n 0, 1) := by decide +kernel
theorem dX9_init_5 : decode cX9_init 5 = .ok (.new 9, 3) := by decide +kernel
theorem dX9_init_8 : decode cX9_init 8 = .ok (.dup, 1) := by decide +kernel
theorem dX9_init_9 : decode cX9_init 9 = .ok (.sipush 1000, 3) := by decide +kernel
theorem dX9_init_12 : decode cX9_init 12 = .ok (.invokespecial 11, 3) := by decide +kernel
theorem dX9_init_15 : decode cX9_init 15 = .ok (.putfield 14, 3) := by decide +kernel
theorem dX9_init_18 : decode cX9_init 18 = .ok (.aload_n 0, 1) := by decide +kernel
theorem dX9_init_19 : decode cX9_init 19 = .ok (.new 9, 3) := by decide +kernel
theorem dX9_init_22 : decode cX9_init 22 = .ok (.dup, 1) := by decide +kernel
theorem dX9_init_23 : decode cX9_init 23 = .ok (.sipush 1000, 3) := by decide +kernel
theorem dX9_init_26 : decode cX9_init 26 = .ok (.invokespecial 11, 3) := by decide +kernel
theorem dX9_init_29 : decode cX9_init 29 = .ok (.putfield 20, 3) := by decide +kernel
theorem dX9_init_32 : decode cX9_init 32 = .ok (.aload_n 0, 1) := by decide +kernel
theorem dX9_init_33 : decode cX9_init 33 = .ok (.new 9, 3) := by decide +kernel
theorem dX9_init_36 : decode cX9_init 36 = .ok (.dup, 1) := by decide +kernel
theorem dX9_init_37 : decode cX9_init 37 = .ok (.sipush 1000, 3) := by decide +kernel
theorem dX9_init_40 : decode cX9_init 40 = .ok (.invokespecial 11, 3) := by decide +kernel
theorem dX9_init_43 : decode cX9_init 43 = .ok (.putfield 23, 3) := by decide +kernel
theorem dX9_init_46 : decode cX9_init 46 = .ok (.aload_n 0, 1) := by decide +kernel
theorem dX9_init_47 : decode cX9_init 47 = .ok (.new 9, 3) := by decide +kernel
theorem dX9_init_50 : decode cX9_init 50 = .ok (.dup, 1) := by decide +kernel
theorem dX9_init_51 : decode cX9_init 51 = .ok (.sipush 1000, 3) := by decide +kernel
theorem dX9_init_54 : decode cX9_init 54 = .ok (.invokespecial 11, 3) := by decide +kernel
theorem dX9_init_57 : decode cX9_init 57 = .ok (.putfield 26, 3) := by decide +kernel
theorem dX9_init_60 : decode cX9_init 60 = .ok (.aload_n 0, 1) := by decide +kernel
theorem dX9_init_61 : decode cX9_init 61 = .ok (.new 9, 3) := by decide +kernel
theorem dX9_init_64 : decode cX9_init 64 = .ok (.dup, 1) := by decide +kernel
theorem dX9_init_65 : decode cX9_init 65 = .ok (.sipush 1000, 3) := by decide +kernel
theorem dX9_init_68 : decode cX9_init 68 = .ok (.invokespecial 11, 3) := by decide +kernel
theorem dX9_init_71 : decode cX9_init 71 = .ok (.putfield 29, 3) := by decide +kernel
theorem dX9_init_74 : decode cX9_init 74 = .ok (.aload_n 0, 1) := by decide +kernel
theorem dX9_init_75 : decode cX9_init 75 = .ok (.new 9, 3) := by decide +kernel
theorem dX9_init_78 : decode cX9_init 78 = .ok (.dup, 1) := by decide +kernel
theorem dX9_init_79 : decode cX9_init 79 = .ok (.sipush 1000, 3) := by decide +kernel
theorem dX9_init_82 : decode cX9_init 82 = .ok (.invokespecial 11, 3) := by decide +kernel
theorem dX9_init_85 : decode cX9_init 85 = .ok (.putfield 32, 3) := by decide +kernel
theorem dX9_init_88 : decode cX9_init 88 = .ok (.aload_n 0, 1) := by decide +kernel
theorem dX9_init_89 : decode cX9_init 89 = .ok (.new 9, 3) := by decide +kernel
theorem dX9_init_92 : decode cX9_init 92 = .ok (.dup, 1) := by decide +kernel
theorem dX9_init_93 : decode cX9_init 93 = .ok (.sipush 1000, 3) := by decide +kernel
theorem dX9_init_96 : decode cX9_init 96 = .ok (.invokespecial 11, 3) := by decide +kernel
theorem dX9_init_99 : decode cX9_init 99 = .ok (.putfield 35, 3) := by decide +kernel
theorem dX9_init_102 : decode cX9_init 102 = .ok (.aload_n 0, 1) := by decide +kernel
theorem dX9_init_103 : decode cX9_init 103 = .ok (.new 9, 3) := by decide +kernel
theorem dX9_init_106 : decode cX9_init 106 = .ok (.dup, 1) := by decide +kernel
theorem dX9_init_107 : decode cX9_init 107 = .ok (.sipush 1000, 3) := by decide +kernel
theorem dX9_init_110 : decode cX9_init 110 = .ok (.invokespecial 11, 3) := by decide +kernel
theorem dX9_init_113 : decode cX9_init 113 = .ok (.putfield 38, 3) := by decide +kernel
theorem dX9_init_116 : decode cX9_init 116 = .ok (.aload_n 0, 1) := by decide +kernel
theorem dX9_init_117 : decode cX9_init 117 = .ok (.new 9, 3) := by decide +kernel
theorem dX9_init_120 : decode cX9_init 120 = .ok (.dup, 1) := by decide +kernel
theorem dX9_init_121 : decode cX9_init 121 = .ok (.sipush 1000, 3) := by decide +kernel
theorem dX9_init_124 : decode cX9_init 124 = .ok (.invokespecial 11, 3) := by decide +kernel
theorem dX9_init_127 : decode cX9_init 127 = .ok (.putfield 41, 3) := by decide +kernel
theorem dX9_init_130 : decode cX9_init 130 = .ok (.aload_n 0, 1) := by decide +kernel
theorem dX9_init_131 : decode cX9_init 131 = .ok (.new 9, 3) := by decide +kernel
theorem dX9_init_134 : decode cX9_init 134 = .ok (.dup, 1) := by decide +kernel
theorem dX9_init_135 : decode cX9_init 135 = .ok (.sipush 1000, 3) := by decide +kernel
theorem dX9_init_138 : decode cX9_init 138 = .ok (.invokespecial 11, 3) := by decide +kernel
theorem dX9_init_141 : decode cX9_init 141 = .ok (.putfield 44, 3) := by decide +kernel
theorem dX9_init_144 : decode cX9_init 144 = .ok (.aload_n 0, 1) := by decide +kernel
theorem dX9_init_145 : decode cX9_init 145 = .ok (.new 9, 3) := by decide +kernel
theorem dX9_init_148 : decode cX9_init 148 = .ok (.dup, 1) := by decide +kernel
theorem dX9_init_149 : decode cX9_init 149 = .ok (.sipush 1000, 3) := by decide +kernel
theorem dX9_init_152 : decode cX9_init 152 = .ok (.invokespecial 11, 3) := by decide +kernel
theorem dX9_init_155 : decode cX9_init 155 = .ok (.putfield 47, 3) := by decide +kernel
theorem dX9_init_158 : decode cX9_init 158 = .ok (.aload_n 0, 1) := by decide +kernel
theorem dX9_init_159 : decode cX9_init 159 = .ok (.new 9, 3) := by decide +kernel
theorem dX9_init_162 : decode cX9_init 162 = .ok (.dup, 1) := by decide +kernel
theorem dX9_init_163 : decode cX9_init 163 = .ok (.sipush 1600, 3) := by decide +kernel
theorem dX9_init_166 : decode cX9_init 166 = .ok (.invokespecial 11, 3) := by decide +kernel
theorem dX9_init_169 : decode cX9_init 169 = .ok (.putfield 50, 3) := by decide +kernel
theorem dX9_init_172 : decode cX9_init 172 = .ok (.aload_n 0, 1) := by decide +kernel
theorem dX9_init_173 : decode cX9_init 173 = .ok (.new 9, 3) := by decide +kernel
theorem dX9_init_176 : decode cX9_init 176 = .ok (.dup, 1) := by decide +kernel
theorem dX9_init_177 : decode cX9_init 177 = .ok (.sipush 1600, 3) := by decide +kernel
theorem dX9_init_180 : decode cX9_init 180 = .ok (.invokespecial 11, 3) := by decide +kernel
theorem dX9_init_183 : decode cX9_init 183 = .ok (.putfield 53, 3) := by decide +kernel
theorem dX9_init_186 : decode cX9_init 186 = .ok (.aload_n 0, 1) := by decide +kernel
theorem dX9_init_187 : decode cX9_init 187 = .ok (.new 9, 3) := by decide +kernel
theorem dX9_init_190 : decode cX9_init 190 = .ok (.dup, 1) := by decide +kernel
theorem dX9_init_191 : decode cX9_init 191 = .ok (.sipush 1600, 3) := by decide +kernel
theorem dX9_init_194 : decode cX9_init 194 = .ok (.invokespecial 11, 3) := by decide +kernel
theorem dX9_init_197 : decode cX9_init 197 = .ok (.putfield 56, 3) := by decide +kernel
theorem dX9_init_200 : decode cX9_init 200 = .ok (.aload_n 0, 1) := by decide +kernel
theorem dX9_init_201 : decode cX9_init 201 = .ok (.new 9, 3) := by decide +kernel
theorem dX9_init_204 : decode cX9_init 204 = .ok (.dup, 1) := by decide +kernel
theorem dX9_init_205 : decode cX9_init 205 = .ok (.sipush 1600, 3) := by decide +kernel
theorem dX9_init_208 : decode cX9_init 208 = .ok (.invokespecial 11, 3) := by decide +kernel
theorem dX9_init_211 : decode cX9_init 211 = .ok (.putfield 59, 3) := by decide +kernel
theorem dX9_init_214 : decode cX9_init 214 = .ok (.return_, 1) := by decide +kernel
set_option maxHeartbeats 8000000 in
set_option maxRecDepth 100000 in
theorem con_X9 {E : zE} (h0 : Nat) : zCon E yX9_init cX9_init 1 2 30 17415 [.ref h0] [(h0, .inr (9, [.null, .null, .null, .null, .null, .null, .null, .null, .null, .null, .null, .null, .null, .null, .null, .int 0, .int 0]))] (pw_X9 E h0) := by
  refine zCon_of (by decide) rfl (Nat.le_of_ble_eq_true rfl) (fun C A => ?_)
  show zB E C cX9_init RX9 1 2 30 17415 A _ _ 0 0 0 [(0, .ref h0)] []
  refine zb_aload_n 0 dX9_init_0 rfl rfl ?_
  refine zb_obj lo_X9_3 oi1 oi2 (by omega) (Nat.le_of_ble_eq_true rfl) dX9_init_1 ?_
  refine zb_aload_n 0 dX9_init_4 rfl rfl ?_
  refine zb_new mk_X9_9 (by omega) (by omega) dX9_init_5 (fun q1 => ?_)
  refine zb_eq (ws' := [(h0, .inr (9, [.null, .null, .null, .null, .null, .null, .null, .null, .null, .null, .null, .null, .null, .null, .null, .int 0, .int 0])), (q1, .inr (5, [.null]))]) rfl ?_
  refine zb_num (k' := 1) (n' := 1) (by decide) (by decide) ?_
  refine zb_dup dX9_init_8 rfl ?_
  refine zb_sipush (v := 1000) dX9_init_9 (by decide) ?_
  refine zb_call (con_X5 (E := E) q1 1000 1000 (by decide) (by decide) (by decide)) yy_X5_init rfl yi_X5_init li_X9_11 (by omega) rfl rfl (Nat.le_of_ble_eq_true rfl) [1] [0] rfl rfl (by decide) (by decide) (by decide) (by omega) (by omega) dX9_init_12 (fun w1 hw3 => ?_)
  obtain ⟨q2, rfl⟩ := hw3
  refine zb_eq (ws' := [(h0, .inr (9, [.null, .null, .null, .null, .null, .null, .null, .null, .null, .null, .null, .null, .null, .null, .null, .int 0, .int 0])), (q1, .inr (5, [.ref q2])), (q2, .inl (E.2.2.1 0, 1000, .inl (fun _ => 0)))]) rfl ?_
  refine zb_num (k' := 2) (n' := 1001) (by decide) (by decide) ?_
  refine zb_putF (q0 := 0) pf_X9_14 rfl (Nat.le_of_ble_eq_true rfl) dX9_init_15 ?_
  refine zb_eq (ws' := [(h0, .inr (9, [.ref q1, .null, .null, .null, .null, .null, .null, .null, .null, .null, .null, .null, .null, .null, .null, .int 0, .int 0])), (q1, .inr (5, [.ref q2])), (q2, .inl (E.2.2.1 0, 1000, .inl (fun _ => 0)))]) rfl ?_
  refine zb_num (k' := 2) (n' := 1001) (by decide) (by decide) ?_
  refine zb_aload_n 0 dX9_init_18 rfl rfl ?_
  refine zb_new mk_X9_9 (by omega) (by omega) dX9_init_19 (fun q4 => ?_)
  refine zb_eq (ws' := [(h0, .inr (9, [.ref q1, .null, .null, .null, .null, .null, .null, .null, .null, .null, .null, .null, .null, .null, .null, .int 0, .int 0])), (q1, .inr (5, [.ref q2])), (q2, .inl (E.2.2.1 0, 1000, .inl (fun _ => 0))), (q4, .inr (5, [.null]))]) rfl ?_
  refine zb_num (k' := 3) (n' := 1002) (by decide) (by decide) ?_
  refine zb_dup dX9_init_22 rfl ?_
  refine zb_sipush (v := 1000) dX9_init_23 (by decide) ?_
  refine zb_call (con_X5 (E := E) q4 1000 1000 (by decide) (by decide) (by decide)) yy_X5_init rfl yi_X5_init li_X9_11 (by omega) rfl rfl (Nat.le_of_ble_eq_true rfl) [3] [0, 1, 2] rfl rfl (by decide) (by decide) (by decide) (by omega) (by omega) dX9_init_26 (fun w1 hw6 => ?_)
  obtain ⟨q5, rfl⟩ := hw6
  refine zb_eq (ws' := [(h0, .inr (9, [.ref q1, .null, .null, .null, .null, .null, .null, .null, .null, .null, .null, .null, .null, .null, .null, .int 0, .int 0])), (q1, .inr (5, [.ref q2])), (q2, .inl (E.2.2.1 0, 1000, .inl (fun _ => 0))), (q4, .inr (5, [.ref q5])), (q5, .inl (E.2.2.1 0, 1000, .inl (fun _ => 0)))]) rfl ?_
  refine zb_num (k' := 4) (n' := 2002) (by decide) (by decide) ?_
  refine zb_putF (q0 := 0) pf_X9_20 rfl (Nat.le_of_ble_eq_true rfl) dX9_init_29 ?_
  refine zb_eq (ws' := [(h0, .inr (9, [.ref q1, .ref q4, .null, .null, .null, .null, .null, .null, .null, .null, .null, .null, .null, .null, .null, .int 0, .int 0])), (q1, .inr (5, [.ref q2])), (q2, .inl (E.2.2.1 0, 1000, .inl (fun _ => 0))), (q4, .inr (5, [.ref q5])), (q5, .inl (E.2.2.1 0, 1000, .inl (fun _ => 0)))]) rfl ?_
  refine zb_num (k' := 4) (n' := 2002) (by decide) (by decide) ?_
  refine zb_aload_n 0 dX9_init_32 rfl rfl ?_
  refine zb_new mk_X9_9 (by omega) (by omega) dX9_init_33 (fun q7 => ?_)
  refine zb_eq (ws' := [(h0, .inr (9, [.ref q1, .ref q4, .null, .null, .null, .null, .null, .null, .null, .null, .null, .null, .null, .null, .null, .int 0, .int 0])), (q1, .inr (5, [.ref q2])), (q2, .inl (E.2.2.1 0, 1000, .inl (fun _ => 0))), (q4, .inr (5, [.ref q5])), (q5, .inl (E.2.2.1 0, 1000, .inl (fun _ => 0))), (q7, .inr (5, [.null]))]) rfl ?_
  refine zb_num (k' := 5) (n' := 2003) (by decide) (by decide) ?_
  refine zb_dup dX9_init_36 rfl ?_
  refine zb_sipush (v := 1000) dX9_init_37 (by decide) ?_
  refine zb_call (con_X5 (E := E) q7 1000 1000 (by decide) (by decide) (by decide)) yy_X5_init rfl yi_X5_init li_X9_11 (by omega) rfl rfl (Nat.le_of_ble_eq_true rfl) [5] [0, 1, 2, 3, 4] rfl rfl (by decide) (by decide) (by decide) (by omega) (by omega) dX9_init_40 (fun w1 hw9 => ?_)
  obtain ⟨q8, rfl⟩ := hw9
  refine zb_eq (ws' := [(h0, .inr (9, [.ref q1, .ref q4, .null, .null, .null, .null, .null, .null, .null, .null, .null, .null, .null, .null, .null, .int 0, .int 0])), (q1, .inr (5, [.ref q2])), (q2, .inl (E.2.2.1 0, 1000, .inl (fun _ => 0))), (q4, .inr (5, [.ref q5])), (q5, .inl (E.2.2.1 0, 1000, .inl (fun _ => 0))), (q7, .inr (5, [.ref q8])), (q8, .inl (E.2.2.1 0, 1000, .inl (fun _ => 0)))]) rfl ?_
  refine zb_num (k' := 6) (n' := 3003) (by decide) (by decide) ?_
  refine zb_putF (q0 := 0) pf_X9_23 rfl (Nat.le_of_ble_eq_true rfl) dX9_init_43 ?_
  refine zb_eq (ws' := [(h0, .inr (9, [.ref q1, .ref q4, .ref q7, .null, .null, .null, .null, .null, .null, .null, .null, .null, .null, .null, .null, .int 0, .int 0])), (q1, .inr (5, [.ref q2])), (q2, .inl (E.2.2.1 0, 1000, .inl (fun _ => 0))), (q4, .inr (5, [.ref q5])), (q5, .inl (E.2.2.1 0, 1000, .inl (fun _ => 0))), (q7, .inr (5, [.ref q8])), (q8, .inl (E.2.2.1 0, 1000, .inl (fun _ => 0)))]) rfl ?_
  refine zb_num (k' := 6) (n' := 3003) (by decide) (by decide) ?_
  refine zb_aload_n 0 dX9_init_46 rfl rfl ?_
  refine zb_new mk_X9_9 (by omega) (by omega) dX9_init_47 (fun q10 => ?_)
  refine zb_eq (ws' := [(h0, .inr (9, [.ref q1, .ref q4, .ref q7, .null, .null, .null, .null, .null, .null, .null, .null, .null, .null, .null, .null, .int 0, .int 0])), (q1, .inr (5, [.ref q2])), (q2, .inl (E.2.2.1 0, 1000, .inl (fun _ => 0))), (q4, .inr (5, [.ref q5])), (q5, .inl (E.2.2.1 0, 1000, .inl (fun _ => 0))), (q7, .inr (5, [.ref q8])), (q8, .inl (E.2.2.1 0, 1000, .inl (fun _ => 0))), (q10, .inr (5, [.null]))]) rfl ?_
  refine zb_num (k' := 7) (n' := 3004) (by decide) (by decide) ?_
  refine zb_dup dX9_init_50 rfl ?_
  refine zb_sipush (v := 1000) dX9_init_51 (by decide) ?_
  refine zb_call (con_X5 (E := E) q10 1000 1000 (by decide) (by decide) (by decide)) yy_X5_init rfl yi_X5_init li_X9_11 (by omega) rfl rfl (Nat.le_of_ble_eq_true rfl) [7] [0, 1, 2, 3, 4, 5, 6] rfl rfl (by decide) (by decide) (by decide) (by omega) (by omega) dX9_init_54 (fun w1 hw12 => ?_)
  obtain ⟨q11, rfl⟩ := hw12
  refine zb_eq (ws' := [(h0, .inr (9, [.ref q1, .ref q4, .ref q7, .null, .null, .null, .null, .null, .null, .null, .null, .null, .null, .null, .null, .int 0, .int 0])), (q1, .inr (5, [.ref q2])), (q2, .inl (E.2.2.1 0, 1000, .inl (fun _ => 0))), (q4, .inr (5, [.ref q5])), (q5, .inl (E.2.2.1 0, 1000, .inl (fun _ => 0))), (q7, .inr (5, [.ref q8])), (q8, .inl (E.2.2.1 0, 1000, .inl (fun _ => 0))), (q10, .inr (5, [.ref q11])), (q11, .inl (E.2.2.1 0, 1000, .inl (fun _ => 0)))]) rfl ?_
  refine zb_num (k' := 8) (n' := 4004) (by decide) (by decide) ?_
  refine zb_putF (q0 := 0) pf_X9_26 rfl (Nat.le_of_ble_eq_true rfl) dX9_init_57 ?_
  refine zb_eq (ws' := [(h0, .inr (9, [.ref q1, .ref q4, .ref q7, .ref q10, .null, .null, .null, .null, .null, .null, .null, .null, .null, .null, .null, .int 0, .int 0])), (q1, .inr (5, [.ref q2])), (q2, .inl (E.2.2.1 0, 1000, .inl (fun _ => 0))), (q4, .inr (5, [.ref q5])), (q5, .inl (E.2.2.1 0, 1000, .inl (fun _ => 0))), (q7, .inr (5, [.ref q8])), (q8, .inl (E.2.2.1 0, 1000, .inl (fun _ => 0))), (q10, .inr (5, [.ref q11])), (q11, .inl (E.2.2.1 0, 1000, .inl (fun _ => 0)))]) rfl ?_
  refine zb_num (k' := 8) (n' := 4004) (by decide) (by decide) ?_
  refine zb_aload_n 0 dX9_init_60 rfl rfl ?_
  refine zb_new mk_X9_9 (by omega) (by omega) dX9_init_61 (fun q13 => ?_)
  refine zb_eq (ws' := [(h0, .inr (9, [.ref q1, .ref q4, .ref q7, .ref q10, .null, .null, .null, .null, .null, .null, .null, .null, .null, .null, .null, .int 0, .int 0])), (q1, .inr (5, [.ref q2])), (q2, .inl (E.2.2.1 0, 1000, .inl (fun _ => 0))), (q4, .inr (5, [.ref q5])), (q5, .inl (E.2.2.1 0, 1000, .inl (fun _ => 0))), (q7, .inr (5, [.ref q8])), (q8, .inl (E.2.2.1 0, 1000, .inl (fun _ => 0))), (q10, .inr (5, [.ref q11])), (q11, .inl (E.2.2.1 0, 1000, .inl (fun _ => 0))), (q13, .inr (5, [.null]))]) rfl ?_
  refine zb_num (k' := 9) (n' := 4005) (by decide) (by decide) ?_
  refine zb_dup dX9_init_64 rfl ?_
  refine zb_sipush (v := 1000) dX9_init_65 (by decide) ?_
  refine zb_call (con_X5 (E := E) q13 1000 1000 (by decide) (by decide) (by decide)) yy_X5_init rfl yi_X5_init li_X9_11 (by omega) rfl rfl (Nat.le_of_ble_eq_true rfl) [9] [0, 1, 2, 3, 4, 5, 6, 7, 8] rfl rfl (by decide) (by decide) (by decide) (by omega) (by omega) dX9_init_68 (fun w1 hw15 => ?_)
  obtain ⟨q14, rfl⟩ := hw15
  refine zb_eq (ws' := [(h0, .inr (9, [.ref q1, .ref q4, .ref q7, .ref q10, .null, .null, .null, .null, .null, .null, .null, .null, .null, .null, .null, .int 0, .int 0])), (q1, .inr (5, [.ref q2])), (q2, .inl (E.2.2.1 0, 1000, .inl (fun _ => 0))), (q4, .inr (5, [.ref q5])), (q5, .inl (E.2.2.1 0, 1000, .inl (fun _ => 0))), (q7, .inr (5, [.ref q8])), (q8, .inl (E.2.2.1 0, 1000, .inl (fun _ => 0))), (q10, .inr (5, [.ref q11])), (q11, .inl (E.2.2.1 0, 1000, .inl (fun _ => 0))), (q13, .inr (5, [.ref q14])), (q14, .inl (E.2.2.1 0, 1000, .inl (fun _ => 0)))]) rfl ?_
  refine zb_num (k' := 10) (n' := 5005) (by decide) (by decide) ?_
  refine zb_putF (q0 := 0) pf_X9_29 rfl (Nat.le_of_ble_eq_true rfl) dX9_init_71 ?_
  refine zb_eq (ws' := [(h0, .inr (9, [.ref q1, .ref q4, .ref q7, .ref q10, .ref q13, .null, .null, .null, .null, .null, .null, .null, .null, .null, .null, .int 0, .int 0])), (q1, .inr (5, [.ref q2])), (q2, .inl (E.2.2.1 0, 1000, .inl (fun _ => 0))), (q4, .inr (5, [.ref q5])), (q5, .inl (E.2.2.1 0, 1000, .inl (fun _ => 0))), (q7, .inr (5, [.ref q8])), (q8, .inl (E.2.2.1 0, 1000, .inl (fun _ => 0))), (q10, .inr (5, [.ref q11])), (q11, .inl (E.2.2.1 0, 1000, .inl (fun _ => 0))), (q13, .inr (5, [.ref q14])), (q14, .inl (E.2.2.1 0, 1000, .inl (fun _ => 0)))]) rfl ?_
  refine zb_num (k' := 10) (n' := 5005) (by decide) (by decide) ?_
  refine zb_aload_n 0 dX9_init_74 rfl rfl ?_
  refine zb_new mk_X9_9 (by omega) (by omega) dX9_init_75 (fun q16 => ?_)
  refine zb_eq (ws' := [(h0, .inr (9, [.ref q1, .ref q4, .ref q7, .ref q10, .ref q13, .null, .null, .null, .null, .null, .null, .null, .null, .null, .null, .int 0, .int 0])), (q1, .inr (5, [.ref q2])), (q2, .inl (E.2.2.1 0, 1000, .inl (fun _ => 0))), (q4, .inr (5, [.ref q5])), (q5, .inl (E.2.2.1 0, 1000, .inl (fun _ => 0))), (q7, .inr (5, [.ref q8])), (q8, .inl (E.2.2.1 0, 1000, .inl (fun _ => 0))), (q10, .inr (5, [.ref q11])), (q11, .inl (E.2.2.1 0, 1000, .inl (fun _ => 0))), (q13, .inr (5, [.ref q14])), (q14, .inl (E.2.2.1 0, 1000, .inl (fun _ => 0))), (q16, .inr (5, [.null]))]) rfl ?_
  refine zb_num (k' := 11) (n' := 5006) (by decide) (by decide) ?_
  refine zb_dup dX9_init_78 rfl ?_
  refine zb_sipush (v := 1000) dX9_init_79 (by decide) ?_
  refine zb_call (con_X5 (E := E) q16 1000 1000 (by decide) (by decide) (by decide)) yy_X5_init rfl yi_X5_init li_X9_11 (by omega) rfl rfl (Nat.le_of_ble_eq_true rfl) [11] [0, 1, 2, 3, 4, 5, 6, 7, 8, 9, 10] rfl rfl (by decide) (by decide) (by decide) (by omega) (by omega) dX9_init_82 (fun w1 hw18 => ?_)
  obtain ⟨q17, rfl⟩ := hw18
  refine zb_eq (ws' := [(h0, .inr (9, [.ref q1, .ref q4, .ref q7, .ref q10, .ref q13, .null, .null, .null, .null, .null, .null, .null, .null, .null, .null, .int 0, .int 0])), (q1, .inr (5, [.ref q2])), (q2, .inl (E.2.2.1 0, 1000, .inl (fun _ => 0))), (q4, .inr (5, [.ref q5])), (q5, .inl (E.2.2.1 0, 1000, .inl (fun _ => 0))), (q7, .inr (5, [.ref q8])), (q8, .inl (E.2.2.1 0, 1000, .inl (fun _ => 0))), (q10, .inr (5, [.ref q11])), (q11, .inl (E.2.2.1 0, 1000, .inl (fun _ => 0))), (q13, .inr (5, [.ref q14])), (q14, .inl (E.2.2.1 0, 1000, .inl (fun _ => 0))), (q16, .inr (5, [.ref q17])), (q17, .inl (E.2.2.1 0, 1000, .inl (fun _ => 0)))]) rfl ?_
  refine zb_num (k' := 12) (n' := 6006) (by decide) (by decide) ?_
  refine zb_putF (q0 := 0) pf_X9_32 rfl (Nat.le_of_ble_eq_true rfl) dX9_init_85 ?_
  refine zb_eq (ws' := [(h0, .inr (9, [.ref q1, .ref q4, .ref q7, .ref q10, .ref q13, .ref q16, .null, .null, .null, .null, .null, .null, .null, .null, .null, .int 0, .int 0])), (q1, .inr (5, [.ref q2])), (q2, .inl (E.2.2.1 0, 1000, .inl (fun _ => 0))), (q4, .inr (5, [.ref q5])), (q5, .inl (E.2.2.1 0, 1000, .inl (fun _ => 0))), (q7, .inr (5, [.ref q8])), (q8, .inl (E.2.2.1 0, 1000, .inl (fun _ => 0))), (q10, .inr (5, [.ref q11])), (q11, .inl (E.2.2.1 0, 1000, .inl (fun _ => 0))), (q13, .inr (5, [.ref q14])), (q14, .inl (E.2.2.1 0, 1000, .inl (fun _ => 0))), (q16, .inr (5, [.ref q17])), (q17, .inl (E.2.2.1 0, 1000, .inl (fun _ => 0)))]) rfl ?_
  refine zb_num (k' := 12) (n' := 6006) (by decide) (by decide) ?_
  refine zb_aload_n 0 dX9_init_88 rfl rfl ?_
  refine zb_new mk_X9_9 (by omega) (by omega) dX9_init_89 (fun q19 => ?_)
  refine zb_eq (ws' := [(h0, .inr (9, [.ref q1, .ref q4, .ref q7, .ref q10, .ref q13, .ref q16, .null, .null, .null, .null, .null, .null, .null, .null, .null, .int 0, .int 0])), (q1, .inr (5, [.ref q2])), (q2, .inl (E.2.2.1 0, 1000, .inl (fun _ => 0))), (q4, .inr (5, [.ref q5])), (q5, .inl (E.2.2.1 0, 1000, .inl (fun _ => 0))), (q7, .inr (5, [.ref q8])), (q8, .inl (E.2.2.1 0, 1000, .inl (fun _ => 0))), (q10, .inr (5, [.ref q11])), (q11, .inl (E.2.2.1 0, 1000, .inl (fun _ => 0))), (q13, .inr (5, [.ref q14])), (q14, .inl (E.2.2.1 0, 1000, .inl (fun _ => 0))), (q16, .inr (5, [.ref q17])), (q17, .inl (E.2.2.1 0, 1000, .inl (fun _ => 0))), (q19, .inr (5, [.null]))]) rfl ?_
  refine zb_num (k' := 13) (n' := 6007) (by decide) (by decide) ?_
  refine zb_dup dX9_init_92 rfl ?_
  refine zb_sipush (v := 1000) dX9_init_93 (by decide) ?_
  refine zb_call (con_X5 (E := E) q19 1000 1000 (by decide) (by decide) (by decide)) yy_X5_init rfl yi_X5_init li_X9_11 (by omega) rfl rfl (Nat.le_of_ble_eq_true rfl) [13] [0, 1, 2, 3, 4, 5, 6, 7, 8, 9, 10, 11, 12] rfl rfl (by decide) (by decide) (by decide) (by omega) (by omega) dX9_init_96 (fun w1 hw21 => ?_)
  obtain ⟨q20, rfl⟩ := hw21
  refine zb_eq (ws' := [(h0, .inr (9, [.ref q1, .ref q4, .ref q7, .ref q10, .ref q13, .ref q16, .null, .null, .null, .null, .null, .null, .null, .null, .null, .int 0, .int 0])), (q1, .inr (5, [.ref q2])), (q2, .inl (E.2.2.1 0, 1000, .inl (fun _ => 0))), (q4, .inr (5, [.ref q5])), (q5, .inl (E.2.2.1 0, 1000, .inl (fun _ => 0))), (q7, .inr (5, [.ref q8])), (q8, .inl (E.2.2.1 0, 1000, .inl (fun _ => 0))), (q10, .inr (5, [.ref q11])), (q11, .inl (E.2.2.1 0, 1000, .inl (fun _ => 0))), (q13, .inr (5, [.ref q14])), (q14, .inl (E.2.2.1 0, 1000, .inl (fun _ => 0))), (q16, .inr (5, [.ref q17])), (q17, .inl (E.2.2.1 0, 1000, .inl (fun _ => 0))), (q19, .inr (5, [.ref q20])), (q20, .inl (E.2.2.1 0, 1000, .inl (fun _ => 0)))]) rfl ?_
  refine zb_num (k' := 14) (n' := 7007) (by decide) (by decide) ?_
  refine zb_putF (q0 := 0) pf_X9_35 rfl (Nat.le_of_ble_eq_true rfl) dX9_init_99 ?_
  refine zb_eq (ws' := [(h0, .inr (9, [.ref q1, .ref q4, .ref q7, .ref q10, .ref q13, .ref q16, .ref q19, .null, .null, .null, .null, .null, .null, .null, .null, .int 0, .int 0])), (q1, .inr (5, [.ref q2])), (q2, .inl (E.2.2.1 0, 1000, .inl (fun _ => 0))), (q4, .inr (5, [.ref q5])), (q5, .inl (E.2.2.1 0, 1000, .inl (fun _ => 0))), (q7, .inr (5, [.ref q8])), (q8, .inl (E.2.2.1 0, 1000, .inl (fun _ => 0))), (q10, .inr (5, [.ref q11])), (q11, .inl (E.2.2.1 0, 1000, .inl (fun _ => 0))), (q13, .inr (5, [.ref q14])), (q14, .inl (E.2.2.1 0, 1000, .inl (fun _ => 0))), (q16, .inr (5, [.ref q17])), (q17, .inl (E.2.2.1 0, 1000, .inl (fun _ => 0))), (q19, .inr (5, [.ref q20])), (q20, .inl (E.2.2.1 0, 1000, .inl (fun _ => 0)))]) rfl ?_
  refine zb_num (k' := 14) (n' := 7007) (by decide) (by decide) ?_
  refine zb_aload_n 0 dX9_init_102 rfl rfl ?_
  refine zb_new mk_X9_9 (by omega) (by omega) dX9_init_103 (fun q22 => ?_)
  refine zb_eq (ws' := [(h0, .inr (9, [.ref q1, .ref q4, .ref q7, .ref q10, .ref q13, .ref q16, .ref q19, .null, .null, .null, .null, .null, .null, .null, .null, .int 0, .int 0])), (q1, .inr (5, [.ref q2])), (q2, .inl (E.2.2.1 0, 1000, .inl (fun _ => 0))), (q4, .inr (5, [.ref q5])), (q5, .inl (E.2.2.1 0, 1000, .inl (fun _ => 0))), (q7, .inr (5, [.ref q8])), (q8, .inl (E.2.2.1 0, 1000, .inl (fun _ => 0))), (q10, .inr (5, [.ref q11])), (q11, .inl (E.2.2.1 0, 1000, .inl (fun _ => 0))), (q13, .inr (5, [.ref q14])), (q14, .inl (E.2.2.1 0, 1000, .inl (fun _ => 0))), (q16, .inr (5, [.ref q17])), (q17, .inl (E.2.2.1 0, 1000, .inl (fun _ => 0))), (q19, .inr (5, [.ref q20])), (q20, .inl (E.2.2.1 0, 1000, .inl (fun _ => 0))), (q22, .inr (5, [.null]))]) rfl ?_
  refine zb_num (k' := 15) (n' := 7008) (by decide) (by decide) ?_
  refine zb_dup dX9_init_106 rfl ?_
  refine zb_sipush (v := 1000) dX9_init_107 (by decide) ?_
  refine zb_call (con_X5 (E := E) q22 1000 1000 (by decide) (by decide) (by decide)) yy_X5_init rfl yi_X5_init li_X9_11 (by omega) rfl rfl (Nat.le_of_ble_eq_true rfl) [15] [0, 1, 2, 3, 4, 5, 6, 7, 8, 9, 10, 11, 12, 13, 14] rfl rfl (by decide) (by decide) (by decide) (by omega) (by omega) dX9_init_110 (fun w1 hw24 => ?_)
  obtain ⟨q23, rfl⟩ := hw24
  refine zb_eq (ws' := [(h0, .inr (9, [.ref q1, .ref q4, .ref q7, .ref q10, .ref q13, .ref q16, .ref q19, .null, .null, .null, .null, .null, .null, .null, .null, .int 0, .int 0])), (q1, .inr (5, [.ref q2])), (q2, .inl (E.2.2.1 0, 1000, .inl (fun _ => 0))), (q4, .inr (5, [.ref q5])), (q5, .inl (E.2.2.1 0, 1000, .inl (fun _ => 0))), (q7, .inr (5, [.ref q8])), (q8, .inl (E.2.2.1 0, 1000, .inl (fun _ => 0))), (q10, .inr (5, [.ref q11])), (q11, .inl (E.2.2.1 0, 1000, .inl (fun _ => 0))), (q13, .inr (5, [.ref q14])), (q14, .inl (E.2.2.1 0, 1000, .inl (fun _ => 0))), (q16, .inr (5, [.ref q17])), (q17, .inl (E.2.2.1 0, 1000, .inl (fun _ => 0))), (q19, .inr (5, [.ref q20])), (q20, .inl (E.2.2.1 0, 1000, .inl (fun _ => 0))), (q22, .inr (5, [.ref q23])), (q23, .inl (E.2.2.1 0, 1000, .inl (fun _ => 0)))]) rfl ?_
  refine zb_num (k' := 16) (n' := 8008) (by decide) (by decide) ?_
  refine zb_putF (q0 := 0) pf_X9_38 rfl (Nat.le_of_ble_eq_true rfl) dX9_init_113 ?_
  refine zb_eq (ws' := [(h0, .inr (9, [.ref q1, .ref q4, .ref q7, .ref q10, .ref q13, .ref q16, .ref q19, .ref q22, .null, .null, .null, .null, .null, .null, .null, .int 0, .int 0])), (q1, .inr (5, [.ref q2])), (q2, .inl (E.2.2.1 0, 1000, .inl (fun _ => 0))), (q4, .inr (5, [.ref q5])), (q5, .inl (E.2.2.1 0, 1000, .inl (fun _ => 0))), (q7, .inr (5, [.ref q8])), (q8, .inl (E.2.2.1 0, 1000, .inl (fun _ => 0))), (q10, .inr (5, [.ref q11])), (q11, .inl (E.2.2.1 0, 1000, .inl (fun _ => 0))), (q13, .inr (5, [.ref q14])), (q14, .inl (E.2.2.1 0, 1000, .inl (fun _ => 0))), (q16, .inr (5, [.ref q17])), (q17, .inl (E.2.2.1 0, 1000, .inl (fun _ => 0))), (q19, .inr (5, [.ref q20])), (q20, .inl (E.2.2.1 0, 1000, .inl (fun _ => 0))), (q22, .inr (5, [.ref q23])), (q23, .inl (E.2.2.1 0, 1000, .inl (fun _ => 0)))]) rfl ?_
  refine zb_num (k' := 16) (n' := 8008) (by decide) (by decide) ?_
  refine zb_aload_n 0 dX9_init_116 rfl rfl ?_
  refine zb_new mk_X9_9 (by omega) (by omega) dX9_init_117 (fun q25 => ?_)
  refine zb_eq (ws' := [(h0, .inr (9, [.ref q1, .ref q4, .ref q7, .ref q10, .ref q13, .ref q16, .ref q19, .ref q22, .null, .null, .null, .null, .null, .null, .null, .int 0, .int 0])), (q1, .inr (5, [.ref q2])), (q2, .inl (E.2.2.1 0, 1000, .inl (fun _ => 0))), (q4, .inr (5, [.ref q5])), (q5, .inl (E.2.2.1 0, 1000, .inl (fun _ => 0))), (q7, .inr (5, [.ref q8])), (q8, .inl (E.2.2.1 0, 1000, .inl (fun _ => 0))), (q10, .inr (5, [.ref q11])), (q11, .inl (E.2.2.1 0, 1000, .inl (fun _ => 0))), (q13, .inr (5, [.ref q14])), (q14, .inl (E.2.2.1 0, 1000, .inl (fun _ => 0))), (q16, .inr (5, [.ref q17])), (q17, .inl (E.2.2.1 0, 1000, .inl (fun _ => 0))), (q19, .inr (5, [.ref q20])), (q20, .inl (E.2.2.1 0, 1000, .inl (fun _ => 0))), (q22, .inr (5, [.ref q23])), (q23, .inl (E.2.2.1 0, 1000, .inl (fun _ => 0))), (q25, .inr (5, [.null]))]) rfl ?_
  refine zb_num (k' := 17) (n' := 8009) (by decide) (by decide) ?_
  refine zb_dup dX9_init_120 rfl ?_
  refine zb_sipush (v := 1000) dX9_init_121 (by decide) ?_
  refine zb_call (con_X5 (E := E) q25 1000 1000 (by decide) (by decide) (by decide)) yy_X5_init rfl yi_X5_init li_X9_11 (by omega) rfl rfl (Nat.le_of_ble_eq_true rfl) [17] [0, 1, 2, 3, 4, 5, 6, 7, 8, 9, 10, 11, 12, 13, 14, 15, 16] rfl rfl (by decide) (by decide) (by decide) (by omega) (by omega) dX9_init_124 (fun w1 hw27 => ?_)
  obtain ⟨q26, rfl⟩ := hw27
  refine zb_eq (ws' := [(h0, .inr (9, [.ref q1, .ref q4, .ref q7, .ref q10, .ref q13, .ref q16, .ref q19, .ref q22, .null, .null, .null, .null, .null, .null, .null, .int 0, .int 0])), (q1, .inr (5, [.ref q2])), (q2, .inl (E.2.2.1 0, 1000, .inl (fun _ => 0))), (q4, .inr (5, [.ref q5])), (q5, .inl (E.2.2.1 0, 1000, .inl (fun _ => 0))), (q7, .inr (5, [.ref q8])), (q8, .inl (E.2.2.1 0, 1000, .inl (fun _ => 0))), (q10, .inr (5, [.ref q11])), (q11, .inl (E.2.2.1 0, 1000, .inl (fun _ => 0))), (q13, .inr (5, [.ref q14])), (q14, .inl (E.2.2.1 0, 1000, .inl (fun _ => 0))), (q16, .inr (5, [.ref q17])), (q17, .inl (E.2.2.1 0, 1000, .inl (fun _ => 0))), (q19, .inr (5, [.ref q20])), (q20, .inl (E.2.2.1 0, 1000, .inl (fun _ => 0))), (q22, .inr (5, [.ref q23])), (q23, .inl (E.2.2.1 0, 1000, .inl (fun _ => 0))), (q25, .inr (5, [.ref q26])), (q26, .inl (E.2.2.1 0, 1000, .inl (fun _ => 0)))]) rfl ?_
  refine zb_num (k' := 18) (n' := 9009) (by decide) (by decide) ?_
  refine zb_putF (q0 := 0) pf_X9_41 rfl (Nat.le_of_ble_eq_true rfl) dX9_init_127 ?_
  refine zb_eq (ws' := [(h0, .inr (9, [.ref q1, .ref q4, .ref q7, .ref q10, .ref q13, .ref q16, .ref q19, .ref q22, .ref q25, .null, .null, .null, .null, .null, .null, .int 0, .int 0])), (q1, .inr (5, [.ref q2])), (q2, .inl (E.2.2.1 0, 1000, .inl (fun _ => 0))), (q4, .inr (5, [.ref q5])), (q5, .inl (E.2.2.1 0, 1000, .inl (fun _ => 0))), (q7, .inr (5, [.ref q8])), (q8, .inl (E.2.2.1 0, 1000, .inl (fun _ => 0))), (q10, .inr (5, [.ref q11])), (q11, .inl (E.2.2.1 0, 1000, .inl (fun _ => 0))), (q13, .inr (5, [.ref q14])), (q14, .inl (E.2.2.1 0, 1000, .inl (fun _ => 0))), (q16, .inr (5, [.ref q17])), (q17, .inl (E.2.2.1 0, 1000, .inl (fun _ => 0))), (q19, .inr (5, [.ref q20])), (q20, .inl (E.2.2.1 0, 1000, .inl (fun _ => 0))), (q22, .inr (5, [.ref q23])), (q23, .inl (E.2.2.1 0, 1000, .inl (fun _ => 0))), (q25, .inr (5, [.ref q26])), (q26, .inl (E.2.2.1 0, 1000, .inl (fun _ => 0)))]) rfl ?_
  refine zb_num (k' := 18) (n' := 9009) (by decide) (by decide) ?_
  refine zb_aload_n 0 dX9_init_130 rfl rfl ?_
  refine zb_new mk_X9_9 (by omega) (by omega) dX9_init_131 (fun q28 => ?_)
  refine zb_eq (ws' := [(h0, .inr (9, [.ref q1, .ref q4, .ref q7, .ref q10, .ref q13, .ref q16, .ref q19, .ref q22, .ref q25, .null, .null, .null, .null, .null, .null, .int 0, .int 0])), (q1, .inr (5, [.ref q2])), (q2, .inl (E.2.2.1 0, 1000, .inl (fun _ => 0))), (q4, .inr (5, [.ref q5])), (q5, .inl (E.2.2.1 0, 1000, .inl (fun _ => 0))), (q7, .inr (5, [.ref q8])), (q8, .inl (E.2.2.1 0, 1000, .inl (fun _ => 0))), (q10, .inr (5, [.ref q11])), (q11, .inl (E.2.2.1 0, 1000, .inl (fun _ => 0))), (q13, .inr (5, [.ref q14])), (q14, .inl (E.2.2.1 0, 1000, .inl (fun _ => 0))), (q16, .inr (5, [.ref q17])), (q17, .inl (E.2.2.1 0, 1000, .inl (fun _ => 0))), (q19, .inr (5, [.ref q20])), (q20, .inl (E.2.2.1 0, 1000, .inl (fun _ => 0))), (q22, .inr (5, [.ref q23])), (q23, .inl (E.2.2.1 0, 1000, .inl (fun _ => 0))), (q25, .inr (5, [.ref q26])), (q26, .inl (E.2.2.1 0, 1000, .inl (fun _ => 0))), (q28, .inr (5, [.null]))]) rfl ?_
  refine zb_num (k' := 19) (n' := 9010) (by decide) (by decide) ?_
  refine zb_dup dX9_init_134 rfl ?_
  refine zb_sipush (v := 1000) dX9_init_135 (by decide) ?_
  refine zb_call (con_X5 (E := E) q28 1000 1000 (by decide) (by decide) (by decide)) yy_X5_init rfl yi_X5_init li_X9_11 (by omega) rfl rfl (Nat.le_of_ble_eq_true rfl) [19] [0, 1, 2, 3, 4, 5, 6, 7, 8, 9, 10, 11, 12, 13, 14, 15, 16, 17, 18] rfl rfl (by decide) (by decide) (by decide) (by omega) (by omega) dX9_init_138 (fun w1 hw30 => ?_)
  obtain ⟨q29, rfl⟩ := hw30
  refine zb_eq (ws' := [(h0, .inr (9, [.ref q1, .ref q4, .ref q7, .ref q10, .ref q13, .ref q16, .ref q19, .ref q22, .ref q25, .null, .null, .null, .null, .null, .null, .int 0, .int 0])), (q1, .inr (5, [.ref q2])), (q2, .inl (E.2.2.1 0, 1000, .inl (fun _ => 0))), (q4, .inr (5, [.ref q5])), (q5, .inl (E.2.2.1 0, 1000, .inl (fun _ => 0))), (q7, .inr (5, [.ref q8])), (q8, .inl (E.2.2.1 0, 1000, .inl (fun _ => 0))), (q10, .inr (5, [.ref q11])), (q11, .inl (E.2.2.1 0, 1000, .inl (fun _ => 0))), (q13, .inr (5, [.ref q14])), (q14, .inl (E.2.2.1 0, 1000, .inl (fun _ => 0))), (q16, .inr (5, [.ref q17])), (q17, .inl (E.2.2.1 0, 1000, .inl (fun _ => 0))), (q19, .inr (5, [.ref q20])), (q20, .inl (E.2.2.1 0, 1000, .inl (fun _ => 0))), (q22, .inr (5, [.ref q23])), (q23, .inl (E.2.2.1 0, 1000, .inl (fun _ => 0))), (q25, .inr (5, [.ref q26])), (q26, .inl (E.2.2.1 0, 1000, .inl (fun _ => 0))), (q28, .inr (5, [.ref q29])), (q29, .inl (E.2.2.1 0, 1000, .inl (fun _ => 0)))]) rfl ?_
  refine zb_num (k' := 20) (n' := 10010) (by decide) (by decide) ?_
  refine zb_putF (q0 := 0) pf_X9_44 rfl (Nat.le_of_ble_eq_true rfl) dX9_init_141 ?_
  refine zb_eq (ws' := [(h0, .inr (9, [.ref q1, .ref q4, .ref q7, .ref q10, .ref q13, .ref q16, .ref q19, .ref q22, .ref q25, .ref q28, .null, .null, .null, .null, .null, .int 0, .int 0])), (q1, .inr (5, [.ref q2])), (q2, .inl (E.2.2.1 0, 1000, .inl (fun _ => 0))), (q4, .inr (5, [.ref q5])), (q5, .inl (E.2.2.1 0, 1000, .inl (fun _ => 0))), (q7, .inr (5, [.ref q8])), (q8, .inl (E.2.2.1 0, 1000, .inl (fun _ => 0))), (q10, .inr (5, [.ref q11])), (q11, .inl (E.2.2.1 0, 1000, .inl (fun _ => 0))), (q13, .inr (5, [.ref q14])), (q14, .inl (E.2.2.1 0, 1000, .inl (fun _ => 0))), (q16, .inr (5, [.ref q17])), (q17, .inl (E.2.2.1 0, 1000, .inl (fun _ => 0))), (q19, .inr (5, [.ref q20])), (q20, .inl (E.2.2.1 0, 1000, .inl (fun _ => 0))), (q22, .inr (5, [.ref q23])), (q23, .inl (E.2.2.1 0, 1000, .inl (fun _ => 0))), (q25, .inr (5, [.ref q26])), (q26, .inl (E.2.2.1 0, 1000, .inl (fun _ => 0))), (q28, .inr (5, [.ref q29])), (q29, .inl (E.2.2.1 0, 1000, .inl (fun _ => 0)))]) rfl ?_
  refine zb_num (k' := 20) (n' := 10010) (by decide) (by decide) ?_
  refine zb_aload_n 0 dX9_init_144 rfl rfl ?_
  refine zb_new mk_X9_9 (by omega) (by omega) dX9_init_145 (fun q31 => ?_)
  refine zb_eq (ws' := [(h0, .inr (9, [.ref q1, .ref q4, .ref q7, .ref q10, .ref q13, .ref q16, .ref q19, .ref q22, .ref q25, .ref q28, .null, .null, .null, .null, .null, .int 0, .int 0])), (q1, .inr (5, [.ref q2])), (q2, .inl (E.2.2.1 0, 1000, .inl (fun _ => 0))), (q4, .inr (5, [.ref q5])), (q5, .inl (E.2.2.1 0, 1000, .inl (fun _ => 0))), (q7, .inr (5, [.ref q8])), (q8, .inl (E.2.2.1 0, 1000, .inl (fun _ => 0))), (q10, .inr (5, [.ref q11])), (q11, .inl (E.2.2.1 0, 1000, .inl (fun _ => 0))), (q13, .inr (5, [.ref q14])), (q14, .inl (E.2.2.1 0, 1000, .inl (fun _ => 0))), (q16, .inr (5, [.ref q17])), (q17, .inl (E.2.2.1 0, 1000, .inl (fun _ => 0))), (q19, .inr (5, [.ref q20])), (q20, .inl (E.2.2.1 0, 1000, .inl (fun _ => 0))), (q22, .inr (5, [.ref q23])), (q23, .inl (E.2.2.1 0, 1000, .inl (fun _ => 0))), (q25, .inr (5, [.ref q26])), (q26, .inl (E.2.2.1 0, 1000, .inl (fun _ => 0))), (q28, .inr (5, [.ref q29])), (q29, .inl (E.2.2.1 0, 1000, .inl (fun _ => 0))), (q31, .inr (5, [.null]))]) rfl ?_
  refine zb_num (k' := 21) (n' := 10011) (by decide) (by decide) ?_
  refine zb_dup dX9_init_148 rfl ?_
  refine zb_sipush (v := 1000) dX9_init_149 (by decide) ?_
  refine zb_call (con_X5 (E := E) q31 1000 1000 (by decide) (by decide) (by decide)) yy_X5_init rfl yi_X5_init li_X9_11 (by omega) rfl rfl (Nat.le_of_ble_eq_true rfl) [21] [0, 1, 2, 3, 4, 5, 6, 7, 8, 9, 10, 11, 12, 13, 14, 15, 16, 17, 18, 19, 20] rfl rfl (by decide) (by decide) (by decide) (by omega) (by omega) dX9_init_152 (fun w1 hw33 => ?_)
  obtain ⟨q32, rfl⟩ := hw33
  refine zb_eq (ws' := [(h0, .inr (9, [.ref q1, .ref q4, .ref q7, .ref q10, .ref q13, .ref q16, .ref q19, .ref q22, .ref q25, .ref q28, .null, .null, .null, .null, .null, .int 0, .int 0])), (q1, .inr (5, [.ref q2])), (q2, .inl (E.2.2.1 0, 1000, .inl (fun _ => 0))), (q4, .inr (5, [.ref q5])), (q5, .inl (E.2.2.1 0, 1000, .inl (fun _ => 0))), (q7, .inr (5, [.ref q8])), (q8, .inl (E.2.2.1 0, 1000, .inl (fun _ => 0))), (q10, .inr (5, [.ref q11])), (q11, .inl (E.2.2.1 0, 1000, .inl (fun _ => 0))), (q13, .inr (5, [.ref q14])), (q14, .inl (E.2.2.1 0, 1000, .inl (fun _ => 0))), (q16, .inr (5, [.ref q17])), (q17, .inl (E.2.2.1 0, 1000, .inl (fun _ => 0))), (q19, .inr (5, [.ref q20])), (q20, .inl (E.2.2.1 0, 1000, .inl (fun _ => 0))), (q22, .inr (5, [.ref q23])), (q23, .inl (E.2.2.1 0, 1000, .inl (fun _ => 0))), (q25, .inr (5, [.ref q26])), (q26, .inl (E.2.2.1 0, 1000, .inl (fun _ => 0))), (q28, .inr (5, [.ref q29])), (q29, .inl (E.2.2.1 0, 1000, .inl (fun _ => 0))), (q31, .inr (5, [.ref q32])), (q32, .inl (E.2.2.1 0, 1000, .inl (fun _ => 0)))]) rfl ?_
  refine zb_num (k' := 22) (n' := 11011) (by decide) (by decide) ?_
  refine zb_putF (q0 := 0) pf_X9_47 rfl (Nat.le_of_ble_eq_true rfl) dX9_init_155 ?_
  refine zb_eq (ws' := [(h0, .inr (9, [.ref q1, .ref q4, .ref q7, .ref q10, .ref q13, .ref q16, .ref q19, .ref q22, .ref q25, .ref q28, .ref q31, .null, .null, .null, .null, .int 0, .int 0])), (q1, .inr (5, [.ref q2])), (q2, .inl (E.2.2.1 0, 1000, .inl (fun _ => 0))), (q4, .inr (5, [.ref q5])), (q5, .inl (E.2.2.1 0, 1000, .inl (fun _ => 0))), (q7, .inr (5, [.ref q8])), (q8, .inl (E.2.2.1 0, 1000, .inl (fun _ => 0))), (q10, .inr (5, [.ref q11])), (q11, .inl (E.2.2.1 0, 1000, .inl (fun _ => 0))), (q13, .inr (5, [.ref q14])), (q14, .inl (E.2.2.1 0, 1000, .inl (fun _ => 0))), (q16, .inr (5, [.ref q17])), (q17, .inl (E.2.2.1 0, 1000, .inl (fun _ => 0))), (q19, .inr (5, [.ref q20])), (q20, .inl (E.2.2.1 0, 1000, .inl (fun _ => 0))), (q22, .inr (5, [.ref q23])), (q23, .inl (E.2.2.1 0, 1000, .inl (fun _ => 0))), (q25, .inr (5, [.ref q26])), (q26, .inl (E.2.2.1 0, 1000, .inl (fun _ => 0))), (q28, .inr (5, [.ref q29])), (q29, .inl (E.2.2.1 0, 1000, .inl (fun _ => 0))), (q31, .inr (5, [.ref q32])), (q32, .inl (E.2.2.1 0, 1000, .inl (fun _ => 0)))]) rfl ?_
  refine zb_num (k' := 22) (n' := 11011) (by decide) (by decide) ?_
  refine zb_aload_n 0 dX9_init_158 rfl rfl ?_
  refine zb_new mk_X9_9 (by omega) (by omega) dX9_init_159 (fun q34 => ?_)
  refine zb_eq (ws' := [(h0, .inr (9, [.ref q1, .ref q4, .ref q7, .ref q10, .ref q13, .ref q16, .ref q19, .ref q22, .ref q25, .ref q28, .ref q31, .null, .null, .null, .null, .int 0, .int 0])), (q1, .inr (5, [.ref q2])), (q2, .inl (E.2.2.1 0, 1000, .inl (fun _ => 0))), (q4, .inr (5, [.ref q5])), (q5, .inl (E.2.2.1 0, 1000, .inl (fun _ => 0))), (q7, .inr (5, [.ref q8])), (q8, .inl (E.2.2.1 0, 1000, .inl (fun _ => 0))), (q10, .inr (5, [.ref q11])), (q11, .inl (E.2.2.1 0, 1000, .inl (fun _ => 0))), (q13, .inr (5, [.ref q14])), (q14, .inl (E.2.2.1 0, 1000, .inl (fun _ => 0))), (q16, .inr (5, [.ref q17])), (q17, .inl (E.2.2.1 0, 1000, .inl (fun _ => 0))), (q19, .inr (5, [.ref q20])), (q20, .inl (E.2.2.1 0, 1000, .inl (fun _ => 0))), (q22, .inr (5, [.ref q23])), (q23, .inl (E.2.2.1 0, 1000, .inl (fun _ => 0))), (q25, .inr (5, [.ref q26])), (q26, .inl (E.2.2.1 0, 1000, .inl (fun _ => 0))), (q28, .inr (5, [.ref q29])), (q29, .inl (E.2.2.1 0, 1000, .inl (fun _ => 0))), (q31, .inr (5, [.ref q32])), (q32, .inl (E.2.2.1 0, 1000, .inl (fun _ => 0))), (q34, .inr (5, [.null]))]) rfl ?_
  refine zb_num (k' := 23) (n' := 11012) (by decide) (by decide) ?_
  refine zb_dup dX9_init_162 rfl ?_
  refine zb_sipush (v := 1600) dX9_init_163 (by decide) ?_
  refine zb_call (con_X5 (E := E) q34 1600 1600 (by decide) (by decide) (by decide)) yy_X5_init rfl yi_X5_init li_X9_11 (by omega) rfl rfl (Nat.le_of_ble_eq_true rfl) [23] [0, 1, 2, 3, 4, 5, 6, 7, 8, 9, 10, 11, 12, 13, 14, 15, 16, 17, 18, 19, 20, 21, 22] rfl rfl (by decide) (by decide) (by decide) (by omega) (by omega) dX9_init_166 (fun w1 hw36 => ?_)
  obtain ⟨q35, rfl⟩ := hw36
  refine zb_eq (ws' := [(h0, .inr (9, [.ref q1, .ref q4, .ref q7, .ref q10, .ref q13, .ref q16, .ref q19, .ref q22, .ref q25, .ref q28, .ref q31, .null, .null, .null, .null, .int 0, .int 0])), (q1, .inr (5, [.ref q2])), (q2, .inl (E.2.2.1 0, 1000, .inl (fun _ => 0))), (q4, .inr (5, [.ref q5])), (q5, .inl (E.2.2.1 0, 1000, .inl (fun _ => 0))), (q7, .inr (5, [.ref q8])), (q8, .inl (E.2.2.1 0, 1000, .inl (fun _ => 0))), (q10, .inr (5, [.ref q11])), (q11, .inl (E.2.2.1 0, 1000, .inl (fun _ => 0))), (q13, .inr (5, [.ref q14])), (q14, .inl (E.2.2.1 0, 1000, .inl (fun _ => 0))), (q16, .inr (5, [.ref q17])), (q17, .inl (E.2.2.1 0, 1000, .inl (fun _ => 0))), (q19, .inr (5, [.ref q20])), (q20, .inl (E.2.2.1 0, 1000, .inl (fun _ => 0))), (q22, .inr (5, [.ref q23])), (q23, .inl (E.2.2.1 0, 1000, .inl (fun _ => 0))), (q25, .inr (5, [.ref q26])), (q26, .inl (E.2.2.1 0, 1000, .inl (fun _ => 0))), (q28, .inr (5, [.ref q29])), (q29, .inl (E.2.2.1 0, 1000, .inl (fun _ => 0))), (q31, .inr (5, [.ref q32])), (q32, .inl (E.2.2.1 0, 1000, .inl (fun _ => 0))), (q34, .inr (5, [.ref q35])), (q35, .inl (E.2.2.1 0, 1600, .inl (fun _ => 0)))]) rfl ?_
  refine zb_num (k' := 24) (n' := 12612) (by decide) (by decide) ?_
  refine zb_putF (q0 := 0) pf_X9_50 rfl (Nat.le_of_ble_eq_true rfl) dX9_init_169 ?_
  refine zb_eq (ws' := [(h0, .inr (9, [.ref q1, .ref q4, .ref q7, .ref q10, .ref q13, .ref q16, .ref q19, .ref q22, .ref q25, .ref q28, .ref q31, .ref q34, .null, .null, .null, .int 0, .int 0])), (q1, .inr (5, [.ref q2])), (q2, .inl (E.2.2.1 0, 1000, .inl (fun _ => 0))), (q4, .inr (5, [.ref q5])), (q5, .inl (E.2.2.1 0, 1000, .inl (fun _ => 0))), (q7, .inr (5, [.ref q8])), (q8, .inl (E.2.2.1 0, 1000, .inl (fun _ => 0))), (q10, .inr (5, [.ref q11])), (q11, .inl (E.2.2.1 0, 1000, .inl (fun _ => 0))), (q13, .inr (5, [.ref q14])), (q14, .inl (E.2.2.1 0, 1000, .inl (fun _ => 0))), (q16, .inr (5, [.ref q17])), (q17, .inl (E.2.2.1 0, 1000, .inl (fun _ => 0))), (q19, .inr (5, [.ref q20])), (q20, .inl (E.2.2.1 0, 1000, .inl (fun _ => 0))), (q22, .inr (5, [.ref q23])), (q23, .inl (E.2.2.1 0, 1000, .inl (fun _ => 0))), (q25, .inr (5, [.ref q26])), (q26, .inl (E.2.2.1 0, 1000, .inl (fun _ => 0))), (q28, .inr (5, [.ref q29])), (q29, .inl (E.2.2.1 0, 1000, .inl (fun _ => 0))), (q31, .inr (5, [.ref q32])), (q32, .inl (E.2.2.1 0, 1000, .inl (fun _ => 0))), (q34, .inr (5, [.ref q35])), (q35, .inl (E.2.2.1 0, 1600, .inl (fun _ => 0)))]) rfl ?_
  refine zb_num (k' := 24) (n' := 12612) (by decide) (by decide) ?_
  refine zb_aload_n 0 dX9_init_172 rfl rfl ?_
  refine zb_new mk_X9_9 (by omega) (by omega) dX9_init_173 (fun q37 => ?_)
  refine zb_eq (ws' := [(h0, .inr (9, [.ref q1, .ref q4, .ref q7, .ref q10, .ref q13, .ref q16, .ref q19, .ref q22, .ref q25, .ref q28, .ref q31, .ref q34, .null, .null, .null, .int 0, .int 0])), (q1, .inr (5, [.ref q2])), (q2, .inl (E.2.2.1 0, 1000, .inl (fun _ => 0))), (q4, .inr (5, [.ref q5])), (q5, .inl (E.2.2.1 0, 1000, .inl (fun _ => 0))), (q7, .inr (5, [.ref q8])), (q8, .inl (E.2.2.1 0, 1000, .inl (fun _ => 0))), (q10, .inr (5, [.ref q11])), (q11, .inl (E.2.2.1 0, 1000, .inl (fun _ => 0))), (q13, .inr (5, [.ref q14])), (q14, .inl (E.2.2.1 0, 1000, .inl (fun _ => 0))), (q16, .inr (5, [.ref q17])), (q17, .inl (E.2.2.1 0, 1000, .inl (fun _ => 0))), (q19, .inr (5, [.ref q20])), (q20, .inl (E.2.2.1 0, 1000, .inl (fun _ => 0))), (q22, .inr (5, [.ref q23])), (q23, .inl (E.2.2.1 0, 1000, .inl (fun _ => 0))), (q25, .inr (5, [.ref q26])), (q26, .inl (E.2.2.1 0, 1000, .inl (fun _ => 0))), (q28, .inr (5, [.ref q29])), (q29, .inl (E.2.2.1 0, 1000, .inl (fun _ => 0))), (q31, .inr (5, [.ref q32])), (q32, .inl (E.2.2.1 0, 1000, .inl (fun _ => 0))), (q34, .inr (5, [.ref q35])), (q35, .inl (E.2.2.1 0, 1600, .inl (fun _ => 0))), (q37, .inr (5, [.null]))]) rfl ?_
  refine zb_num (k' := 25) (n' := 12613) (by decide) (by decide) ?_
  refine zb_dup dX9_init_176 rfl ?_
  refine zb_sipush (v := 1600) dX9_init_177 (by decide) ?_
  refine zb_call (con_X5 (E := E) q37 1600 1600 (by decide) (by decide) (by decide)) yy_X5_init rfl yi_X5_init li_X9_11 (by omega) rfl rfl (Nat.le_of_ble_eq_true rfl) [25] [0, 1, 2, 3, 4, 5, 6, 7, 8, 9, 10, 11, 12, 13, 14, 15, 16, 17, 18, 19, 20, 21, 22, 23, 24] rfl rfl (by decide) (by decide) (by decide) (by omega) (by omega) dX9_init_180 (fun w1 hw39 => ?_)
  obtain ⟨q38, rfl⟩ := hw39
  refine zb_eq (ws' := [(h0, .inr (9, [.ref q1, .ref q4, .ref q7, .ref q10, .ref q13, .ref q16, .ref q19, .ref q22, .ref q25, .ref q28, .ref q31, .ref q34, .null, .null, .null, .int 0, .int 0])), (q1, .inr (5, [.ref q2])), (q2, .inl (E.2.2.1 0, 1000, .inl (fun _ => 0))), (q4, .inr (5, [.ref q5])), (q5, .inl (E.2.2.1 0, 1000, .inl (fun _ => 0))), (q7, .inr (5, [.ref q8])), (q8, .inl (E.2.2.1 0, 1000, .inl (fun _ => 0))), (q10, .inr (5, [.ref q11])), (q11, .inl (E.2.2.1 0, 1000, .inl (fun _ => 0))), (q13, .inr (5, [.ref q14])), (q14, .inl (E.2.2.1 0, 1000, .inl (fun _ => 0))), (q16, .inr (5, [.ref q17])), (q17, .inl (E.2.2.1 0, 1000, .inl (fun _ => 0))), (q19, .inr (5, [.ref q20])), (q20, .inl (E.2.2.1 0, 1000, .inl (fun _ => 0))), (q22, .inr (5, [.ref q23])), (q23, .inl (E.2.2.1 0, 1000, .inl (fun _ => 0))), (q25, .inr (5, [.ref q26])), (q26, .inl (E.2.2.1 0, 1000, .inl (fun _ => 0))), (q28, .inr (5, [.ref q29])), (q29, .inl (E.2.2.1 0, 1000, .inl (fun _ => 0))), (q31, .inr (5, [.ref q32])), (q32, .inl (E.2.2.1 0, 1000, .inl (fun _ => 0))), (q34, .inr (5, [.ref q35])), (q35, .inl (E.2.2.1 0, 1600, .inl (fun _ => 0))), (q37, .inr (5, [.ref q38])), (q38, .inl (E.2.2.1 0, 1600, .inl (fun _ => 0)))]) rfl ?_
  refine zb_num (k' := 26) (n' := 14213) (by decide) (by decide) ?_
  refine zb_putF (q0 := 0) pf_X9_53 rfl (Nat.le_of_ble_eq_true rfl) dX9_init_183 ?_
  refine zb_eq (ws' := [(h0, .inr (9, [.ref q1, .ref q4, .ref q7, .ref q10, .ref q13, .ref q16, .ref q19, .ref q22, .ref q25, .ref q28, .ref q31, .ref q34, .ref q37, .null, .null, .int 0, .int 0])), (q1, .inr (5, [.ref q2])), (q2, .inl (E.2.2.1 0, 1000, .inl (fun _ => 0))), (q4, .inr (5, [.ref q5])), (q5, .inl (E.2.2.1 0, 1000, .inl (fun _ => 0))), (q7, .inr (5, [.ref q8])), (q8, .inl (E.2.2.1 0, 1000, .inl (fun _ => 0))), (q10, .inr (5, [.ref q11])), (q11, .inl (E.2.2.1 0, 1000, .inl (fun _ => 0))), (q13, .inr (5, [.ref q14])), (q14, .inl (E.2.2.1 0, 1000, .inl (fun _ => 0))), (q16, .inr (5, [.ref q17])), (q17, .inl (E.2.2.1 0, 1000, .inl (fun _ => 0))), (q19, .inr (5, [.ref q20])), (q20, .inl (E.2.2.1 0, 1000, .inl (fun _ => 0))), (q22, .inr (5, [.ref q23])), (q23, .inl (E.2.2.1 0, 1000, .inl (fun _ => 0))), (q25, .inr (5, [.ref q26])), (q26, .inl (E.2.2.1 0, 1000, .inl (fun _ => 0))), (q28, .inr (5, [.ref q29])), (q29, .inl (E.2.2.1 0, 1000, .inl (fun _ => 0))), (q31, .inr (5, [.ref q32])), (q32, .inl (E.2.2.1 0, 1000, .inl (fun _ => 0))), (q34, .inr (5, [.ref q35])), (q35, .inl (E.2.2.1 0, 1600, .inl (fun _ => 0))), (q37, .inr (5, [.ref q38])), (q38, .inl (E.2.2.1 0, 1600, .inl (fun _ => 0)))]) rfl ?_
  refine zb_num (k' := 26) (n' := 14213) (by decide) (by decide) ?_
  refine zb_aload_n 0 dX9_init_186 rfl rfl ?_
  refine zb_new mk_X9_9 (by omega) (by omega) dX9_init_187 (fun q40 => ?_)
  refine zb_eq (ws' := [(h0, .inr (9, [.ref q1, .ref q4, .ref q7, .ref q10, .ref q13, .ref q16, .ref q19, .ref q22, .ref q25, .ref q28, .ref q31, .ref q34, .ref q37, .null, .null, .int 0, .int 0])), (q1, .inr (5, [.ref q2])), (q2, .inl (E.2.2.1 0, 1000, .inl (fun _ => 0))), (q4, .inr (5, [.ref q5])), (q5, .inl (E.2.2.1 0, 1000, .inl (fun _ => 0))), (q7, .inr (5, [.ref q8])), (q8, .inl (E.2.2.1 0, 1000, .inl (fun _ => 0))), (q10, .inr (5, [.ref q11])), (q11, .inl (E.2.2.1 0, 1000, .inl (fun _ => 0))), (q13, .inr (5, [.ref q14])), (q14, .inl (E.2.2.1 0, 1000, .inl (fun _ => 0))), (q16, .inr (5, [.ref q17])), (q17, .inl (E.2.2.1 0, 1000, .inl (fun _ => 0))), (q19, .inr (5, [.ref q20])), (q20, .inl (E.2.2.1 0, 1000, .inl (fun _ => 0))), (q22, .inr (5, [.ref q23])), (q23, .inl (E.2.2.1 0, 1000, .inl (fun _ => 0))), (q25, .inr (5, [.ref q26])), (q26, .inl (E.2.2.1 0, 1000, .inl (fun _ => 0))), (q28, .inr (5, [.ref q29])), (q29, .inl (E.2.2.1 0, 1000, .inl (fun _ => 0))), (q31, .inr (5, [.ref q32])), (q32, .inl (E.2.2.1 0, 1000, .inl (fun _ => 0))), (q34, .inr (5, [.ref q35])), (q35, .inl (E.2.2.1 0, 1600, .inl (fun _ => 0))), (q37, .inr (5, [.ref q38])), (q38, .inl (E.2.2.1 0, 1600, .inl (fun _ => 0))), (q40, .inr (5, [.null]))]) rfl ?_
  refine zb_num (k' := 27) (n' := 14214) (by decide) (by decide) ?_
  refine zb_dup dX9_init_190 rfl ?_
  refine zb_sipush (v := 1600) dX9_init_191 (by decide) ?_
  refine zb_call (con_X5 (E := E) q40 1600 1600 (by decide) (by decide) (by decide)) yy_X5_init rfl yi_X5_init li_X9_11 (by omega) rfl rfl (Nat.le_of_ble_eq_true rfl) [27] [0, 1, 2, 3, 4, 5, 6, 7, 8, 9, 10, 11, 12, 13, 14, 15, 16, 17, 18, 19, 20, 21, 22, 23, 24, 25, 26] rfl rfl (by decide) (by decide) (by decide) (by omega) (by omega) dX9_init_194 (fun w1 hw42 => ?_)
  obtain ⟨q41, rfl⟩ := hw42
  refine zb_eq (ws' := [(h0, .inr (9, [.ref q1, .ref q4, .ref q7, .ref q10, .ref q13, .ref q16, .ref q19, .ref q22, .ref q25, .ref q28, .ref q31, .ref q34, .ref q37, .null, .null, .int 0, .int 0])), (q1, .inr (5, [.ref q2])), (q2, .inl (E.2.2.1 0, 1000, .inl (fun _ => 0))), (q4, .inr (5, [.ref q5])), (q5, .inl (E.2.2.1 0, 1000, .inl (fun _ => 0))), (q7, .inr (5, [.ref q8])), (q8, .inl (E.2.2.1 0, 1000, .inl (fun _ => 0))), (q10, .inr (5, [.ref q11])), (q11, .inl (E.2.2.1 0, 1000, .inl (fun _ => 0))), (q13, .inr (5, [.ref q14])), (q14, .inl (E.2.2.1 0, 1000, .inl (fun _ => 0))), (q16, .inr (5, [.ref q17])), (q17, .inl (E.2.2.1 0, 1000, .inl (fun _ => 0))), (q19, .inr (5, [.ref q20])), (q20, .inl (E.2.2.1 0, 1000, .inl (fun _ => 0))), (q22, .inr (5, [.ref q23])), (q23, .inl (E.2.2.1 0, 1000, .inl (fun _ => 0))), (q25, .inr (5, [.ref q26])), (q26, .inl (E.2.2.1 0, 1000, .inl (fun _ => 0))), (q28, .inr (5, [.ref q29])), (q29, .inl (E.2.2.1 0, 1000, .inl (fun _ => 0))), (q31, .inr (5, [.ref q32])), (q32, .inl (E.2.2.1 0, 1000, .inl (fun _ => 0))), (q34, .inr (5, [.ref q35])), (q35, .inl (E.2.2.1 0, 1600, .inl (fun _ => 0))), (q37, .inr (5, [.ref q38])), (q38, .inl (E.2.2.1 0, 1600, .inl (fun _ => 0))), (q40, .inr (5, [.ref q41])), (q41, .inl (E.2.2.1 0, 1600, .inl (fun _ => 0)))]) rfl ?_
  refine zb_num (k' := 28) (n' := 15814) (by decide) (by decide) ?_
  refine zb_putF (q0 := 0) pf_X9_56 rfl (Nat.le_of_ble_eq_true rfl) dX9_init_197 ?_
  refine zb_eq (ws' := [(h0, .inr (9, [.ref q1, .ref q4, .ref q7, .ref q10, .ref q13, .ref q16, .ref q19, .ref q22, .ref q25, .ref q28, .ref q31, .ref q34, .ref q37, .ref q40, .null, .int 0, .int 0])), (q1, .inr (5, [.ref q2])), (q2, .inl (E.2.2.1 0, 1000, .inl (fun _ => 0))), (q4, .inr (5, [.ref q5])), (q5, .inl (E.2.2.1 0, 1000, .inl (fun _ => 0))), (q7, .inr (5, [.ref q8])), (q8, .inl (E.2.2.1 0, 1000, .inl (fun _ => 0))), (q10, .inr (5, [.ref q11])), (q11, .inl (E.2.2.1 0, 1000, .inl (fun _ => 0))), (q13, .inr (5, [.ref q14])), (q14, .inl (E.2.2.1 0, 1000, .inl (fun _ => 0))), (q16, .inr (5, [.ref q17])), (q17, .inl (E.2.2.1 0, 1000, .inl (fun _ => 0))), (q19, .inr (5, [.ref q20])), (q20, .inl (E.2.2.1 0, 1000, .inl (fun _ => 0))), (q22, .inr (5, [.ref q23])), (q23, .inl (E.2.2.1 0, 1000, .inl (fun _ => 0))), (q25, .inr (5, [.ref q26])), (q26, .inl (E.2.2.1 0, 1000, .inl (fun _ => 0))), (q28, .inr (5, [.ref q29])), (q29, .inl (E.2.2.1 0, 1000, .inl (fun _ => 0))), (q31, .inr (5, [.ref q32])), (q32, .inl (E.2.2.1 0, 1000, .inl (fun _ => 0))), (q34, .inr (5, [.ref q35])), (q35, .inl (E.2.2.1 0, 1600, .inl (fun _ => 0))), (q37, .inr (5, [.ref q38])), (q38, .inl (E.2.2.1 0, 1600, .inl (fun _ => 0))), (q40, .inr (5, [.ref q41])), (q41, .inl (E.2.2.1 0, 1600, .inl (fun _ => 0)))]) rfl ?_
  refine zb_num (k' := 28) (n' := 15814) (by decide) (by decide) ?_
  refine zb_aload_n 0 dX9_init_200 rfl rfl ?_
  refine zb_new mk_X9_9 (by omega) (by omega) dX9_init_201 (fun q43 => ?_)
  refine zb_eq (ws' := [(h0, .inr (9, [.ref q1, .ref q4, .ref q7, .ref q10, .ref q13, .ref q16, .ref q19, .ref q22, .ref q25, .ref q28, .ref q31, .ref q34, .ref q37, .ref q40, .null, .int 0, .int 0])), (q1, .inr (5, [.ref q2])), (q2, .inl (E.2.2.1 0, 1000, .inl (fun _ => 0))), (q4, .inr (5, [.ref q5])), (q5, .inl (E.2.2.1 0, 1000, .inl (fun _ => 0))), (q7, .inr (5, [.ref q8])), (q8, .inl (E.2.2.1 0, 1000, .inl (fun _ => 0))), (q10, .inr (5, [.ref q11])), (q11, .inl (E.2.2.1 0, 1000, .inl (fun _ => 0))), (q13, .inr (5, [.ref q14])), (q14, .inl (E.2.2.1 0, 1000, .inl (fun _ => 0))), (q16, .inr (5, [.ref q17])), (q17, .inl (E.2.2.1 0, 1000, .inl (fun _ => 0))), (q19, .inr (5, [.ref q20])), (q20, .inl (E.2.2.1 0, 1000, .inl (fun _ => 0))), (q22, .inr (5, [.ref q23])), (q23, .inl (E.2.2.1 0, 1000, .inl (fun _ => 0))), (q25, .inr (5, [.ref q26])), (q26, .inl (E.2.2.1 0, 1000, .inl (fun _ => 0))), (q28, .inr (5, [.ref q29])), (q29, .inl (E.2.2.1 0, 1000, .inl (fun _ => 0))), (q31, .inr (5, [.ref q32])), (q32, .inl (E.2.2.1 0, 1000, .inl (fun _ => 0))), (q34, .inr (5, [.ref q35])), (q35, .inl (E.2.2.1 0, 1600, .inl (fun _ => 0))), (q37, .inr (5, [.ref q38])), (q38, .inl (E.2.2.1 0, 1600, .inl (fun _ => 0))), (q40, .inr (5, [.ref q41])), (q41, .inl (E.2.2.1 0, 1600, .inl (fun _ => 0))), (q43, .inr (5, [.null]))]) rfl ?_
  refine zb_num (k' := 29) (n' := 15815) (by decide) (by decide) ?_
  refine zb_dup dX9_init_204 rfl ?_
  refine zb_sipush (v := 1600) dX9_init_205 (by decide) ?_
  refine zb_call (con_X5 (E := E) q43 1600 1600 (by decide) (by decide) (by decide)) yy_X5_init rfl yi_X5_init li_X9_11 (by omega) rfl rfl (Nat.le_of_ble_eq_true rfl) [29] [0, 1, 2, 3, 4, 5, 6, 7, 8, 9, 10, 11, 12, 13, 14, 15, 16, 17, 18, 19, 20, 21, 22, 23, 24, 25, 26, 27, 28] rfl rfl (by decide) (by decide) (by decide) (by omega) (by omega) dX9_init_208 (fun w1 hw45 => ?_)
  obtain ⟨q44, rfl⟩ := hw45
  refine zb_eq (ws' := [(h0, .inr (9, [.ref q1, .ref q4, .ref q7, .ref q10, .ref q13, .ref q16, .ref q19, .ref q22, .ref q25, .ref q28, .ref q31, .ref q34, .ref q37, .ref q40, .null, .int 0, .int 0])), (q1, .inr (5, [.ref q2])), (q2, .inl (E.2.2.1 0, 1000, .inl (fun _ => 0))), (q4, .inr (5, [.ref q5])), (q5, .inl (E.2.2.1 0, 1000, .inl (fun _ => 0))), (q7, .inr (5, [.ref q8])), (q8, .inl (E.2.2.1 0, 1000, .inl (fun _ => 0))), (q10, .inr (5, [.ref q11])), (q11, .inl (E.2.2.1 0, 1000, .inl (fun _ => 0))), (q13, .inr (5, [.ref q14])), (q14, .inl (E.2.2.1 0, 1000, .inl (fun _ => 0))), (q16, .inr (5, [.ref q17])), (q17, .inl (E.2.2.1 0, 1000, .inl (fun _ => 0))), (q19, .inr (5, [.ref q20])), (q20, .inl (E.2.2.1 0, 1000, .inl (fun _ => 0))), (q22, .inr (5, [.ref q23])), (q23, .inl (E.2.2.1 0, 1000, .inl (fun _ => 0))), (q25, .inr (5, [.ref q26])), (q26, .inl (E.2.2.1 0, 1000, .inl (fun _ => 0))), (q28, .inr (5, [.ref q29])), (q29, .inl (E.2.2.1 0, 1000, .inl (fun _ => 0))), (q31, .inr (5, [.ref q32])), (q32, .inl (E.2.2.1 0, 1000, .inl (fun _ => 0))), (q34, .inr (5, [.ref q35])), (q35, .inl (E.2.2.1 0, 1600, .inl (fun _ => 0))), (q37, .inr (5, [.ref q38])), (q38, .inl (E.2.2.1 0, 1600, .inl (fun _ => 0))), (q40, .inr (5, [.ref q41])), (q41, .inl (E.2.2.1 0, 1600, .inl (fun _ => 0))), (q43, .inr (5, [.ref q44])), (q44, .inl (E.2.2.1 0, 1600, .inl (fun _ => 0)))]) rfl ?_
  refine zb_num (k' := 30) (n' := 17415) (by decide) (by decide) ?_
  refine zb_putF (q0 := 0) pf_X9_59 rfl (Nat.le_of_ble_eq_true rfl) dX9_init_211 ?_
  refine zb_eq (ws' := [(h0, .inr (9, [.ref q1, .ref q4, .ref q7, .ref q10, .ref q13, .ref q16, .ref q19, .ref q22, .ref q25, .ref q28, .ref q31, .ref q34, .ref q37, .ref q40, .ref q43, .int 0, .int 0])), (q1, .inr (5, [.ref q2])), (q2, .inl (E.2.2.1 0, 1000, .inl (fun _ => 0))), (q4, .inr (5, [.ref q5])), (q5, .inl (E.2.2.1 0, 1000, .inl (fun _ => 0))), (q7, .inr (5, [.ref q8])), (q8, .inl (E.2.2.1 0, 1000, .inl (fun _ => 0))), (q10, .inr (5, [.ref q11])), (q11, .inl (E.2.2.1 0, 1000, .inl (fun _ => 0))), (q13, .inr (5, [.ref q14])), (q14, .inl (E.2.2.1 0, 1000, .inl (fun _ => 0))), (q16, .inr (5, [.ref q17])), (q17, .inl (E.2.2.1 0, 1000, .inl (fun _ => 0))), (q19, .inr (5, [.ref q20])), (q20, .inl (E.2.2.1 0, 1000, .inl (fun _ => 0))), (q22, .inr (5, [.ref q23])), (q23, .inl (E.2.2.1 0, 1000, .inl (fun _ => 0))), (q25, .inr (5, [.ref q26])), (q26, .inl (E.2.2.1 0, 1000, .inl (fun _ => 0))), (q28, .inr (5, [.ref q29])), (q29, .inl (E.2.2.1 0, 1000, .inl (fun _ => 0))), (q31, .inr (5, [.ref q32])), (q32, .inl (E.2.2.1 0, 1000, .inl (fun _ => 0))), (q34, .inr (5, [.ref q35])), (q35, .inl (E.2.2.1 0, 1600, .inl (fun _ => 0))), (q37, .inr (5, [.ref q38])), (q38, .inl (E.2.2.1 0, 1600, .inl (fun _ => 0))), (q40, .inr (5, [.ref q41])), (q41, .inl (E.2.2.1 0, 1600, .inl (fun _ => 0))), (q43, .inr (5, [.ref q44])), (q44, .inl (E.2.2.1 0, 1600, .inl (fun _ => 0)))]) rfl ?_
  refine zb_num (k' := 30) (n' := 17415) (by decide) (by decide) ?_
  exact zb_vret ⟨q1, q2, q4, q5, q7, q8, q10, q11, q13, q14, q16, q17, q19, q20, q22, q23, q25, q26, q28, q29, q31, q32, q34, q35, q37, q38, q40, q41, q43, q44, rfl⟩ (by omega) (by omega) dX9_init_214
def pw_X10 (E : zE) (h0 : Nat) (w : va_W) : Prop := ∃ q1 q2 q3 q5 q6 q8 q9 : Nat, w = [(h0, .inr (10, [.ref q1, .ref q2, .ref q5, .ref q8, .int 0, .int 0, .int 0])), (q1, .inl (E.2.2.1 0, 9003, .inl (fun _ => 0))), (q2, .inr (5, [.ref q3])), (q3, .inl (E.2.2.1 0, 3120, .inl (fun _ => 0))), (q5, .inr (5, [.ref q6])), (q6, .inl (E.2.2.1 0, 1602, .inl (fun _ => 0))), (q8, .inr (5, [.ref q9])), (q9, .inl (E.2.2.1 0, 4096, .inl (fun _ => 0)))]
theorem dX10_init_0 : decode cX10_init 0 = .ok (.aload_n 0, 1) := by decide +kernel
theorem dX10_init_1 : decode cX10_init 1 = .ok (.invokespecial 3, 3) := by decide +kernel
theorem dX10_init_4 : decode cX10_init 4 = .ok (.aload_n 0, 1) := by decide +kernel
theorem dX10_init_5 : decode cX10_init 5 = .ok (.sipush 9003, 3) := by decide +kernel
theorem dX10_init_8 : decode cX10_init 8 = .ok (.newarray .int, 2) := by decide +kernel
theorem dX10_init_10 : decode cX10_init 10 = .ok (.putfield 9, 3) := by decide +kernel
theorem dX10_init_13 : decode cX10_init 13 = .ok (.aload_n 0, 1) := by decide +kernel
theorem dX10_init_14 : decode cX10_init 14 = .ok (.new 15, 3) := by decide +kernel
theorem dX10_init_17 : decode cX10_init 17 = .ok (.dup, 1) := by decide +kernel
theorem dX10_init_18 : decode cX10_init 18 = .ok (.sipush 3120, 3) := by decide +kernel
theorem dX10_init_21 : decode cX10_init 21 = .ok (.invokespecial 17, 3) := by decide +kernel
theorem dX10_init_24 : decode cX10_init 24 = .ok (.putfield 20, 3) := by decide +kernel
theorem dX10_init_27 : decode cX10_init 27 = .ok (.aload_n 0, 1) := by decide +kernel
theorem dX10_init_28 : decode cX10_init 28 = .ok (.new 15, 3) := by decide +kernel
theorem dX10_init_31 : decode cX10_init 31 = .ok (.dup, 1) := by decide +kernel
theorem dX10_init_32 : decode cX10_init 32 = .ok (.sipush 1602, 3) := by decide +kernel
theorem dX10_init_35 : decode cX10_init 35 = .ok (.invokespecial 17, 3) := by decide +kernel
theorem dX10_init_38 : decode cX10_init 38 = .ok (.putfield 24, 3) := by decide +kernel
theorem dX10_init_41 : decode cX10_init 41 = .ok (.aload_n 0, 1) := by decide +kernel
theorem dX10_init_42 : decode cX10_init 42 = .ok (.new 15, 3) := by decide +kernel
theorem dX10_init_45 : decode cX10_init 45 = .ok (.dup, 1) := by decide +kernel
theorem dX10_init_46 : decode cX10_init 46 = .ok (.sipush 4096, 3) := by decide +kernel
theorem dX10_init_49 : decode cX10_init 49 = .ok (.invokespecial 17, 3) := by decide +kernel
theorem dX10_init_52 : decode cX10_init 52 = .ok (.putfield 27, 3) := by decide +kernel
theorem dX10_init_55 : decode cX10_init 55 = .ok (.return_, 1) := by decide +kernel
set_option maxHeartbeats 8000000 in
set_option maxRecDepth 100000 in
theorem con_X10 {E : zE} (h0 : Nat) : zCon E yX10_init cX10_init 1 2 7 17824 [.ref h0] [(h0, .inr (10, [.null, .null, .null, .null, .int 0, .int 0, .int 0]))] (pw_X10 E h0) := by
  refine zCon_of (by decide) rfl (Nat.le_of_ble_eq_true rfl) (fun C A => ?_)
  show zB E C cX10_init RX10 1 2 7 17824 A _ _ 0 0 0 [(0, .ref h0)] []
  refine zb_aload_n 0 dX10_init_0 rfl rfl ?_
  refine zb_obj lo_X10_3 oi1 oi2 (by omega) (Nat.le_of_ble_eq_true rfl) dX10_init_1 ?_
  refine zb_aload_n 0 dX10_init_4 rfl rfl ?_
  refine zb_sipush (v := 9003) dX10_init_5 (by decide) ?_
  refine zb_newi (N := 9003) aci (by decide) (by decide) (by decide) (by omega) (by omega) dX10_init_8 (fun q1 => ?_)
  refine zb_eq (ws' := [(h0, .inr (10, [.null, .null, .null, .null, .int 0, .int 0, .int 0])), (q1, .inl (E.2.2.1 0, 9003, .inl (fun _ => 0)))]) rfl ?_
  refine zb_num (k' := 1) (n' := 9003) (by decide) (by decide) ?_
  refine zb_putF (q0 := 0) pf_X10_9 rfl (Nat.le_of_ble_eq_true rfl) dX10_init_10 ?_
  refine zb_eq (ws' := [(h0, .inr (10, [.ref q1, .null, .null, .null, .int 0, .int 0, .int 0])), (q1, .inl (E.2.2.1 0, 9003, .inl (fun _ => 0)))]) rfl ?_
  refine zb_num (k' := 1) (n' := 9003) (by decide) (by decide) ?_
  refine zb_aload_n 0 dX10_init_13 rfl rfl ?_
  refine zb_new mk_X10_15 (by omega) (by omega) dX10_init_14 (fun q2 => ?_)
  refine zb_eq (ws' := [(h0, .inr (10, [.ref q1, .null, .null, .null, .int 0, .int 0, .int 0])), (q1, .inl (E.2.2.1 0, 9003, .inl (fun _ => 0))), (q2, .inr (5, [.null]))]) rfl ?_
  refine zb_num (k' := 2) (n' := 9004) (by decide) (by decide) ?_
  refine zb_dup dX10_init_17 rfl ?_
  refine zb_sipush (v := 3120) dX10_init_18 (by decide) ?_
  refine zb_call (con_X5 (E := E) q2 3120 3120 (by decide) (by decide) (by decide)) yy_X5_init rfl yi_X5_init li_X10_17 (by omega) rfl rfl (Nat.le_of_ble_eq_true rfl) [2] [0, 1] rfl rfl (by decide) (by decide) (by decide) (by omega) (by omega) dX10_init_21 (fun w1 hw4 => ?_)
  obtain ⟨q3, rfl⟩ := hw4
  refine zb_eq (ws' := [(h0, .inr (10, [.ref q1, .null, .null, .null, .int 0, .int 0, .int 0])), (q1, .inl (E.2.2.1 0, 9003, .inl (fun _ => 0))), (q2, .inr (5, [.ref q3])), (q3, .inl (E.2.2.1 0, 3120, .inl (fun _ => 0)))]) rfl ?_
  refine zb_num (k' := 3) (n' := 12124) (by decide) (by decide) ?_
  refine zb_putF (q0 := 0) pf_X10_20 rfl (Nat.le_of_ble_eq_true rfl) dX10_init_24 ?_
  refine zb_eq (ws' := [(h0, .inr (10, [.ref q1, .ref q2, .null, .null, .int 0, .int 0, .int 0])), (q1, .inl (E.2.2.1 0, 9003, .inl (fun _ => 0))), (q2, .inr (5, [.ref q3])), (q3, .inl (E.2.2.1 0, 3120, .inl (fun _ => 0)))]) rfl ?_
  refine zb_num (k' := 3) (n' := 12124) (by decide) (by decide) ?_
  refine zb_aload_n 0 dX10_init_27 rfl rfl ?_
  refine zb_new mk_X10_15 (by omega) (by omega) dX10_init_28 (fun q5 => ?_)
  refine zb_eq (ws' := [(h0, .inr (10, [.ref q1, .ref q2, .null, .null, .int 0, .int 0, .int 0])), (q1, .inl (E.2.2.1 0, 9003, .inl (fun _ => 0))), (q2, .inr (5, [.ref q3])), (q3, .inl (E.2.2.1 0, 3120, .inl (fun _ => 0))), (q5, .inr (5, [.null]))]) rfl ?_
  refine zb_num (k' := 4) (n' := 12125) (by decide) (by decide) ?_
  refine zb_dup dX10_init_31 rfl ?_
  refine zb_sipush (v := 1602) dX10_init_32 (by decide) ?_
  refine zb_call (con_X5 (E := E) q5 1602 1602 (by decide) (by decide) (by decide)) yy_X5_init rfl yi_X5_init li_X10_17 (by omega) rfl rfl (Nat.le_of_ble_eq_true rfl) [4] [0, 1, 2, 3] rfl rfl (by decide) (by decide) (by decide) (by omega) (by omega) dX10_init_35 (fun w1 hw7 => ?_)
  obtain ⟨q6, rfl⟩ := hw7
  refine zb_eq (ws' := [(h0, .inr (10, [.ref q1, .ref q2, .null, .null, .int 0, .int 0, .int 0])), (q1, .inl (E.2.2.1 0, 9003, .inl (fun _ => 0))), (q2, .inr (5, [.ref q3])), (q3, .inl (E.2.2.1 0, 3120, .inl (fun _ => 0))), (q5, .inr (5, [.ref q6])), (q6, .inl (E.2.2.1 0, 1602, .inl (fun _ => 0)))]) rfl ?_
  refine zb_num (k' := 5) (n' := 13727) (by decide) (by decide) ?_
  refine zb_putF (q0 := 0) pf_X10_24 rfl (Nat.le_of_ble_eq_true rfl) dX10_init_38 ?_
  refine zb_eq (ws' := [(h0, .inr (10, [.ref q1, .ref q2, .ref q5, .null, .int 0, .int 0, .int 0])), (q1, .inl (E.2.2.1 0, 9003, .inl (fun _ => 0))), (q2, .inr (5, [.ref q3])), (q3, .inl (E.2.2.1 0, 3120, .inl (fun _ => 0))), (q5, .inr (5, [.ref q6])), (q6, .inl (E.2.2.1 0, 1602, .inl (fun _ => 0)))]) rfl ?_
  refine zb_num (k' := 5) (n' := 13727) (by decide) (by decide) ?_
  refine zb_aload_n 0 dX10_init_41 rfl rfl ?_
  refine zb_new mk_X10_15 (by omega) (by omega) dX10_init_42 (fun q8 => ?_)
  refine zb_eq (ws' := [(h0, .inr (10, [.ref q1, .ref q2, .ref q5, .null, .int 0, .int 0, .int 0])), (q1, .inl (E.2.2.1 0, 9003, .inl (fun _ => 0))), (q2, .inr (5, [.ref q3])), (q3, .inl (E.2.2.1 0, 3120, .inl (fun _ => 0))), (q5, .inr (5, [.ref q6])), (q6, .inl (E.2.2.1 0, 1602, .inl (fun _ => 0))), (q8, .inr (5, [.null]))]) rfl ?_
  refine zb_num (k' := 6) (n' := 13728) (by decide) (by decide) ?_
  refine zb_dup dX10_init_45 rfl ?_
  refine zb_sipush (v := 4096) dX10_init_46 (by decide) ?_
  refine zb_call (con_X5 (E := E) q8 4096 4096 (by decide) (by decide) (by decide)) yy_X5_init rfl yi_X5_init li_X10_17 (by omega) rfl rfl (Nat.le_of_ble_eq_true rfl) [6] [0, 1, 2, 3, 4, 5] rfl rfl (by decide) (by decide) (by decide) (by omega) (by omega) dX10_init_49 (fun w1 hw10 => ?_)
  obtain ⟨q9, rfl⟩ := hw10
  refine zb_eq (ws' := [(h0, .inr (10, [.ref q1, .ref q2, .ref q5, .null, .int 0, .int 0, .int 0])), (q1, .inl (E.2.2.1 0, 9003, .inl (fun _ => 0))), (q2, .inr (5, [.ref q3])), (q3, .inl (E.2.2.1 0, 3120, .inl (fun _ => 0))), (q5, .inr (5, [.ref q6])), (q6, .inl (E.2.2.1 0, 1602, .inl (fun _ => 0))), (q8, .inr (5, [.ref q9])), (q9, .inl (E.2.2.1 0, 4096, .inl (fun _ => 0)))]) rfl ?_
  refine zb_num (k' := 7) (n' := 17824) (by decide) (by decide) ?_
  refine zb_putF (q0 := 0) pf_X10_27 rfl (Nat.le_of_ble_eq_true rfl) dX10_init_52 ?_
  refine zb_eq (ws' := [(h0, .inr (10, [.ref q1, .ref q2, .ref q5, .ref q8, .int 0, .int 0, .int 0])), (q1, .inl (E.2.2.1 0, 9003, .inl (fun _ => 0))), (q2, .inr (5, [.ref q3])), (q3, .inl (E.2.2.1 0, 3120, .inl (fun _ => 0))), (q5, .inr (5, [.ref q6])), (q6, .inl (E.2.2.1 0, 1602, .inl (fun _ => 0))), (q8, .inr (5, [.ref q9])), (q9, .inl (E.2.2.1 0, 4096, .inl (fun _ => 0)))]) rfl ?_
  refine zb_num (k' := 7) (n' := 17824) (by decide) (by decide) ?_
  exact zb_vret ⟨q1, q2, q3, q5, q6, q8, q9, rfl⟩ (by omega) (by omega) dX10_init_55
def pw_X7 (E : zE) (h0 : Nat) (a1 : Nat) (a2 : Nat) (a3 : Nat) (a4 : Nat) (w : va_W) : Prop := ∃ q1 q2 q3 q4 q5 q6 q7 q8 q10 q11 q13 q14 : Nat, w = [(h0, .inr (7, [.ref q1, .ref a1, .ref a2, .ref a3, .ref a4, .ref q10, .ref q13, .int 0, .int 0, .int 0, .int 0, .int 0, .int 0, .int 0, .int 0])), (q1, .inr (10, [.ref q2, .ref q3, .ref q5, .ref q7, .int 0, .int 0, .int 0])), (q2, .inl (E.2.2.1 0, 9003, .inl (fun _ => 0))), (q3, .inr (5, [.ref q4])), (q4, .inl (E.2.2.1 0, 3120, .inl (fun _ => 0))), (q5, .inr (5, [.ref q6])), (q6, .inl (E.2.2.1 0, 1602, .inl (fun _ => 0))), (q7, .inr (5, [.ref q8])), (q8, .inl (E.2.2.1 0, 4096, .inl (fun _ => 0))), (q10, .inr (5, [.ref q11])), (q11, .inl (E.2.2.1 0, 1600, .inl (fun _ => 0))), (q13, .inr (5, [.ref q14])), (q14, .inl (E.2.2.1 0, 1600, .inl (fun _ => 0)))]
theorem dX7_init_0 : decode cX7_init 0 = .ok (.aload_n 0, 1) := by decide +kernel
theorem dX7_init_1 : decode cX7_init 1 = .ok (.invokespecial 3, 3) := by decide +kernel
theorem dX7_init_4 : decode cX7_init 4 = .ok (.aload_n 0, 1) := by decide +kernel
theorem dX7_init_5 : decode cX7_init 5 = .ok (.new 9, 3) := by decide +kernel
theorem dX7_init_8 : decode cX7_init 8 = .ok (.dup, 1) := by decide +kernel
theorem dX7_init_9 : decode cX7_init 9 = .ok (.invokespecial 11, 3) := by decide +kernel
theorem dX7_init_12 : decode cX7_init 12 = .ok (.putfield 12, 3) := by decide +kernel
theorem dX7_init_15 : decode cX7_init 15 = .ok (.aload_n 0, 1) := by decide +kernel
theorem dX7_init_16 : decode cX7_init 16 = .ok (.new 18, 3) := by decide +kernel
theorem dX7_init_19 : decode cX7_init 19 = .ok (.dup, 1) := by decide +kernel
theorem dX7_init_20 : decode cX7_init 20 = .ok (.sipush 1600, 3) := by decide +kernel
theorem dX7_init_23 : decode cX7_init 23 = .ok (.invokespecial 20, 3) := by decide +kernel
theorem dX7_init_26 : decode cX7_init 26 = .ok (.putfield 23, 3) := by decide +kernel
theorem dX7_init_29 : decode cX7_init 29 = .ok (.aload_n 0, 1) := by decide +kernel
theorem dX7_init_30 : decode cX7_init 30 = .ok (.new 18, 3) := by decide +kernel
theorem dX7_init_33 : decode cX7_init 33 = .ok (.dup, 1) := by decide +kernel
theorem dX7_init_34 : decode cX7_init 34 = .ok (.sipush 1600, 3) := by decide +kernel
theorem dX7_init_37 : decode cX7_init 37 = .ok (.invokespecial 20, 3) := by decide +kernel
theorem dX7_init_40 : decode cX7_init 40 = .ok (.putfield 27, 3) := by decide +kernel
theorem dX7_init_43 : decode cX7_init 43 = .ok (.aload_n 0, 1) := by decide +kernel
theorem dX7_init_44 : decode cX7_init 44 = .ok (.aload_n 1, 1) := by decide +kernel
theorem dX7_init_45 : decode cX7_init 45 = .ok (.putfield 30, 3) := by decide +kernel
theorem dX7_init_48 : decode cX7_init 48 = .ok (.aload_n 0, 1) := by decide +kernel
theorem dX7_init_49 : decode cX7_init 49 = .ok (.aload_n 2, 1) := by decide +kernel
theorem dX7_init_50 : decode cX7_init 50 = .ok (.putfield 34, 3) := by decide +kernel
theorem dX7_init_53 : decode cX7_init 53 = .ok (.aload_n 0, 1) := by decide +kernel
theorem dX7_init_54 : decode cX7_init 54 = .ok (.aload_n 3, 1) := by decide +kernel
theorem dX7_init_55 : decode cX7_init 55 = .ok (.putfield 38, 3) := by decide +kernel
theorem dX7_init_58 : decode cX7_init 58 = .ok (.aload_n 0, 1) := by decide +kernel
theorem dX7_init_59 : decode cX7_init 59 = .ok (.aload 4, 2) := by decide +kernel
theorem dX7_init_61 : decode cX7_init 61 = .ok (.putfield 42, 3) := by decide +kernel
theorem dX7_init_64 : decode cX7_init 64 = .ok (.return_, 1) := by decide +kernel
set_option maxHeartbeats 8000000 in
set_option maxRecDepth 100000 in
theorem con_X7 {E : zE} (h0 : Nat) (a1 : Nat) (a2 : Nat) (a3 : Nat) (a4 : Nat) : zCon E yX7_init cX7_init 5 3 12 21033 [.ref h0, .ref a1, .ref a2, .ref a3, .ref a4] [(h0, .inr (7, [.null, .null, .null, .null, .null, .null, .null, .int 0, .int 0, .int 0, .int 0, .int 0, .int 0, .int 0, .int 0]))] (pw_X7 E h0 a1 a2 a3 a4) := by
  refine zCon_of (by decide) rfl (Nat.le_of_ble_eq_true rfl) (fun C A => ?_)
  show zB E C cX7_init RX7 5 3 12 21033 A _ _ 0 0 0 [(0, .ref h0), (1, .ref a1), (2, .ref a2), (3, .ref a3), (4, .ref a4)] []
  refine zb_aload_n 0 dX7_init_0 rfl rfl ?_
  refine zb_obj lo_X7_3 oi1 oi2 (by omega) (Nat.le_of_ble_eq_true rfl) dX7_init_1 ?_
  refine zb_aload_n 0 dX7_init_4 rfl rfl ?_
  refine zb_new mk_X7_9 (by omega) (by omega) dX7_init_5 (fun q1 => ?_)
  refine zb_eq (ws' := [(h0, .inr (7, [.null, .null, .null, .null, .null, .null, .null, .int 0, .int 0, .int 0, .int 0, .int 0, .int 0, .int 0, .int 0])), (q1, .inr (10, [.null, .null, .null, .null, .int 0, .int 0, .int 0]))]) rfl ?_
  refine zb_num (k' := 1) (n' := 7) (by decide) (by decide) ?_
  refine zb_dup dX7_init_8 rfl ?_
  refine zb_call (con_X10 (E := E) q1 ) yy_X10_init rfl yi_X10_init li_X7_11 (by omega) rfl rfl (Nat.le_of_ble_eq_true rfl) [1] [0] rfl rfl (by decide) (by decide) (by decide) (by omega) (by omega) dX7_init_9 (fun w1 hw9 => ?_)
  obtain ⟨q2, q3, q4, q5, q6, q7, q8, rfl⟩ := hw9
  refine zb_eq (ws' := [(h0, .inr (7, [.null, .null, .null, .null, .null, .null, .null, .int 0, .int 0, .int 0, .int 0, .int 0, .int 0, .int 0, .int 0])), (q1, .inr (10, [.ref q2, .ref q3, .ref q5, .ref q7, .int 0, .int 0, .int 0])), (q2, .inl (E.2.2.1 0, 9003, .inl (fun _ => 0))), (q3, .inr (5, [.ref q4])), (q4, .inl (E.2.2.1 0, 3120, .inl (fun _ => 0))), (q5, .inr (5, [.ref q6])), (q6, .inl (E.2.2.1 0, 1602, .inl (fun _ => 0))), (q7, .inr (5, [.ref q8])), (q8, .inl (E.2.2.1 0, 4096, .inl (fun _ => 0)))]) rfl ?_
  refine zb_num (k' := 8) (n' := 17831) (by decide) (by decide) ?_
  refine zb_putF (q0 := 0) pf_X7_12 rfl (Nat.le_of_ble_eq_true rfl) dX7_init_12 ?_
  refine zb_eq (ws' := [(h0, .inr (7, [.ref q1, .null, .null, .null, .null, .null, .null, .int 0, .int 0, .int 0, .int 0, .int 0, .int 0, .int 0, .int 0])), (q1, .inr (10, [.ref q2, .ref q3, .ref q5, .ref q7, .int 0, .int 0, .int 0])), (q2, .inl (E.2.2.1 0, 9003, .inl (fun _ => 0))), (q3, .inr (5, [.ref q4])), (q4, .inl (E.2.2.1 0, 3120, .inl (fun _ => 0))), (q5, .inr (5, [.ref q6])), (q6, .inl (E.2.2.1 0, 1602, .inl (fun _ => 0))), (q7, .inr (5, [.ref q8])), (q8, .inl (E.2.2.1 0, 4096, .inl (fun _ => 0)))]) rfl ?_
  refine zb_num (k' := 8) (n' := 17831) (by decide) (by decide) ?_
  refine zb_aload_n 0 dX7_init_15 rfl rfl ?_
  refine zb_new mk_X7_18 (by omega) (by omega) dX7_init_16 (fun q10 => ?_)
  refine zb_eq (ws' := [(h0, .inr (7, [.ref q1, .null, .null, .null, .null, .null, .null, .int 0, .int 0, .int 0, .int 0, .int 0, .int 0, .int 0, .int 0])), (q1, .inr (10, [.ref q2, .ref q3, .ref q5, .ref q7, .int 0, .int 0, .int 0])), (q2, .inl (E.2.2.1 0, 9003, .inl (fun _ => 0))), (q3, .inr (5, [.ref q4])), (q4, .inl (E.2.2.1 0, 3120, .inl (fun _ => 0))), (q5, .inr (5, [.ref q6])), (q6, .inl (E.2.2.1 0, 1602, .inl (fun _ => 0))), (q7, .inr (5, [.ref q8])), (q8, .inl (E.2.2.1 0, 4096, .inl (fun _ => 0))), (q10, .inr (5, [.null]))]) rfl ?_
  refine zb_num (k' := 9) (n' := 17832) (by decide) (by decide) ?_
  refine zb_dup dX7_init_19 rfl ?_
  refine zb_sipush (v := 1600) dX7_init_20 (by decide) ?_
  refine zb_call (con_X5 (E := E) q10 1600 1600 (by decide) (by decide) (by decide)) yy_X5_init rfl yi_X5_init li_X7_20 (by omega) rfl rfl (Nat.le_of_ble_eq_true rfl) [9] [0, 1, 2, 3, 4, 5, 6, 7, 8] rfl rfl (by decide) (by decide) (by decide) (by omega) (by omega) dX7_init_23 (fun w1 hw12 => ?_)
  obtain ⟨q11, rfl⟩ := hw12
  refine zb_eq (ws' := [(h0, .inr (7, [.ref q1, .null, .null, .null, .null, .null, .null, .int 0, .int 0, .int 0, .int 0, .int 0, .int 0, .int 0, .int 0])), (q1, .inr (10, [.ref q2, .ref q3, .ref q5, .ref q7, .int 0, .int 0, .int 0])), (q2, .inl (E.2.2.1 0, 9003, .inl (fun _ => 0))), (q3, .inr (5, [.ref q4])), (q4, .inl (E.2.2.1 0, 3120, .inl (fun _ => 0))), (q5, .inr (5, [.ref q6])), (q6, .inl (E.2.2.1 0, 1602, .inl (fun _ => 0))), (q7, .inr (5, [.ref q8])), (q8, .inl (E.2.2.1 0, 4096, .inl (fun _ => 0))), (q10, .inr (5, [.ref q11])), (q11, .inl (E.2.2.1 0, 1600, .inl (fun _ => 0)))]) rfl ?_
  refine zb_num (k' := 10) (n' := 19432) (by decide) (by decide) ?_
  refine zb_putF (q0 := 0) pf_X7_23 rfl (Nat.le_of_ble_eq_true rfl) dX7_init_26 ?_
  refine zb_eq (ws' := [(h0, .inr (7, [.ref q1, .null, .null, .null, .null, .ref q10, .null, .int 0, .int 0, .int 0, .int 0, .int 0, .int 0, .int 0, .int 0])), (q1, .inr (10, [.ref q2, .ref q3, .ref q5, .ref q7, .int 0, .int 0, .int 0])), (q2, .inl (E.2.2.1 0, 9003, .inl (fun _ => 0))), (q3, .inr (5, [.ref q4])), (q4, .inl (E.2.2.1 0, 3120, .inl (fun _ => 0))), (q5, .inr (5, [.ref q6])), (q6, .inl (E.2.2.1 0, 1602, .inl (fun _ => 0))), (q7, .inr (5, [.ref q8])), (q8, .inl (E.2.2.1 0, 4096, .inl (fun _ => 0))), (q10, .inr (5, [.ref q11])), (q11, .inl (E.2.2.1 0, 1600, .inl (fun _ => 0)))]) rfl ?_
  refine zb_num (k' := 10) (n' := 19432) (by decide) (by decide) ?_
  refine zb_aload_n 0 dX7_init_29 rfl rfl ?_
  refine zb_new mk_X7_18 (by omega) (by omega) dX7_init_30 (fun q13 => ?_)
  refine zb_eq (ws' := [(h0, .inr (7, [.ref q1, .null, .null, .null, .null, .ref q10, .null, .int 0, .int 0, .int 0, .int 0, .int 0, .int 0, .int 0, .int 0])), (q1, .inr (10, [.ref q2, .ref q3, .ref q5, .ref q7, .int 0, .int 0, .int 0])), (q2, .inl (E.2.2.1 0, 9003, .inl (fun _ => 0))), (q3, .inr (5, [.ref q4])), (q4, .inl (E.2.2.1 0, 3120, .inl (fun _ => 0))), (q5, .inr (5, [.ref q6])), (q6, .inl (E.2.2.1 0, 1602, .inl (fun _ => 0))), (q7, .inr (5, [.ref q8])), (q8, .inl (E.2.2.1 0, 4096, .inl (fun _ => 0))), (q10, .inr (5, [.ref q11])), (q11, .inl (E.2.2.1 0, 1600, .inl (fun _ => 0))), (q13, .inr (5, [.null]))]) rfl ?_
  refine zb_num (k' := 11) (n' := 19433) (by decide) (by decide) ?_
  refine zb_dup dX7_init_33 rfl ?_
  refine zb_sipush (v := 1600) dX7_init_34 (by decide) ?_
  refine zb_call (con_X5 (E := E) q13 1600 1600 (by decide) (by decide) (by decide)) yy_X5_init rfl yi_X5_init li_X7_20 (by omega) rfl rfl (Nat.le_of_ble_eq_true rfl) [11] [0, 1, 2, 3, 4, 5, 6, 7, 8, 9, 10] rfl rfl (by decide) (by decide) (by decide) (by omega) (by omega) dX7_init_37 (fun w1 hw15 => ?_)
  obtain ⟨q14, rfl⟩ := hw15
  refine zb_eq (ws' := [(h0, .inr (7, [.ref q1, .null, .null, .null, .null, .ref q10, .null, .int 0, .int 0, .int 0, .int 0, .int 0, .int 0, .int 0, .int 0])), (q1, .inr (10, [.ref q2, .ref q3, .ref q5, .ref q7, .int 0, .int 0, .int 0])), (q2, .inl (E.2.2.1 0, 9003, .inl (fun _ => 0))), (q3, .inr (5, [.ref q4])), (q4, .inl (E.2.2.1 0, 3120, .inl (fun _ => 0))), (q5, .inr (5, [.ref q6])), (q6, .inl (E.2.2.1 0, 1602, .inl (fun _ => 0))), (q7, .inr (5, [.ref q8])), (q8, .inl (E.2.2.1 0, 4096, .inl (fun _ => 0))), (q10, .inr (5, [.ref q11])), (q11, .inl (E.2.2.1 0, 1600, .inl (fun _ => 0))), (q13, .inr (5, [.ref q14])), (q14, .inl (E.2.2.1 0, 1600, .inl (fun _ => 0)))]) rfl ?_
  refine zb_num (k' := 12) (n' := 21033) (by decide) (by decide) ?_
  refine zb_putF (q0 := 0) pf_X7_27 rfl (Nat.le_of_ble_eq_true rfl) dX7_init_40 ?_
  refine zb_eq (ws' := [(h0, .inr (7, [.ref q1, .null, .null, .null, .null, .ref q10, .ref q13, .int 0, .int 0, .int 0, .int 0, .int 0, .int 0, .int 0, .int 0])), (q1, .inr (10, [.ref q2, .ref q3, .ref q5, .ref q7, .int 0, .int 0, .int 0])), (q2, .inl (E.2.2.1 0, 9003, .inl (fun _ => 0))), (q3, .inr (5, [.ref q4])), (q4, .inl (E.2.2.1 0, 3120, .inl (fun _ => 0))), (q5, .inr (5, [.ref q6])), (q6, .inl (E.2.2.1 0, 1602, .inl (fun _ => 0))), (q7, .inr (5, [.ref q8])), (q8, .inl (E.2.2.1 0, 4096, .inl (fun _ => 0))), (q10, .inr (5, [.ref q11])), (q11, .inl (E.2.2.1 0, 1600, .inl (fun _ => 0))), (q13, .inr (5, [.ref q14])), (q14, .inl (E.2.2.1 0, 1600, .inl (fun _ => 0)))]) rfl ?_
  refine zb_num (k' := 12) (n' := 21033) (by decide) (by decide) ?_
  refine zb_aload_n 0 dX7_init_43 rfl rfl ?_
  refine zb_aload_n 1 dX7_init_44 rfl rfl ?_
  refine zb_putF (q0 := 0) pf_X7_30 rfl (Nat.le_of_ble_eq_true rfl) dX7_init_45 ?_
  refine zb_eq (ws' := [(h0, .inr (7, [.ref q1, .ref a1, .null, .null, .null, .ref q10, .ref q13, .int 0, .int 0, .int 0, .int 0, .int 0, .int 0, .int 0, .int 0])), (q1, .inr (10, [.ref q2, .ref q3, .ref q5, .ref q7, .int 0, .int 0, .int 0])), (q2, .inl (E.2.2.1 0, 9003, .inl (fun _ => 0))), (q3, .inr (5, [.ref q4])), (q4, .inl (E.2.2.1 0, 3120, .inl (fun _ => 0))), (q5, .inr (5, [.ref q6])), (q6, .inl (E.2.2.1 0, 1602, .inl (fun _ => 0))), (q7, .inr (5, [.ref q8])), (q8, .inl (E.2.2.1 0, 4096, .inl (fun _ => 0))), (q10, .inr (5, [.ref q11])), (q11, .inl (E.2.2.1 0, 1600, .inl (fun _ => 0))), (q13, .inr (5, [.ref q14])), (q14, .inl (E.2.2.1 0, 1600, .inl (fun _ => 0)))]) rfl ?_
  refine zb_num (k' := 12) (n' := 21033) (by decide) (by decide) ?_
  refine zb_aload_n 0 dX7_init_48 rfl rfl ?_
  refine zb_aload_n 2 dX7_init_49 rfl rfl ?_
  refine zb_putF (q0 := 0) pf_X7_34 rfl (Nat.le_of_ble_eq_true rfl) dX7_init_50 ?_
  refine zb_eq (ws' := [(h0, .inr (7, [.ref q1, .ref a1, .ref a2, .null, .null, .ref q10, .ref q13, .int 0, .int 0, .int 0, .int 0, .int 0, .int 0, .int 0, .int 0])), (q1, .inr (10, [.ref q2, .ref q3, .ref q5, .ref q7, .int 0, .int 0, .int 0])), (q2, .inl (E.2.2.1 0, 9003, .inl (fun _ => 0))), (q3, .inr (5, [.ref q4])), (q4, .inl (E.2.2.1 0, 3120, .inl (fun _ => 0))), (q5, .inr (5, [.ref q6])), (q6, .inl (E.2.2.1 0, 1602, .inl (fun _ => 0))), (q7, .inr (5, [.ref q8])), (q8, .inl (E.2.2.1 0, 4096, .inl (fun _ => 0))), (q10, .inr (5, [.ref q11])), (q11, .inl (E.2.2.1 0, 1600, .inl (fun _ => 0))), (q13, .inr (5, [.ref q14])), (q14, .inl (E.2.2.1 0, 1600, .inl (fun _ => 0)))]) rfl ?_
  refine zb_num (k' := 12) (n' := 21033) (by decide) (by decide) ?_
  refine zb_aload_n 0 dX7_init_53 rfl rfl ?_
  refine zb_aload_n 3 dX7_init_54 rfl rfl ?_
  refine zb_putF (q0 := 0) pf_X7_38 rfl (Nat.le_of_ble_eq_true rfl) dX7_init_55 ?_
  refine zb_eq (ws' := [(h0, .inr (7, [.ref q1, .ref a1, .ref a2, .ref a3, .null, .ref q10, .ref q13, .int 0, .int 0, .int 0, .int 0, .int 0, .int 0, .int 0, .int 0])), (q1, .inr (10, [.ref q2, .ref q3, .ref q5, .ref q7, .int 0, .int 0, .int 0])), (q2, .inl (E.2.2.1 0, 9003, .inl (fun _ => 0))), (q3, .inr (5, [.ref q4])), (q4, .inl (E.2.2.1 0, 3120, .inl (fun _ => 0))), (q5, .inr (5, [.ref q6])), (q6, .inl (E.2.2.1 0, 1602, .inl (fun _ => 0))), (q7, .inr (5, [.ref q8])), (q8, .inl (E.2.2.1 0, 4096, .inl (fun _ => 0))), (q10, .inr (5, [.ref q11])), (q11, .inl (E.2.2.1 0, 1600, .inl (fun _ => 0))), (q13, .inr (5, [.ref q14])), (q14, .inl (E.2.2.1 0, 1600, .inl (fun _ => 0)))]) rfl ?_
  refine zb_num (k' := 12) (n' := 21033) (by decide) (by decide) ?_
  refine zb_aload_n 0 dX7_init_58 rfl rfl ?_
  refine zb_aload 4 dX7_init_59 rfl ?_
  refine zb_putF (q0 := 0) pf_X7_42 rfl (Nat.le_of_ble_eq_true rfl) dX7_init_61 ?_
  refine zb_eq (ws' := [(h0, .inr (7, [.ref q1, .ref a1, .ref a2, .ref a3, .ref a4, .ref q10, .ref q13, .int 0, .int 0, .int 0, .int 0, .int 0, .int 0, .int 0, .int 0])), (q1, .inr (10, [.ref q2, .ref q3, .ref q5, .ref q7, .int 0, .int 0, .int 0])), (q2, .inl (E.2.2.1 0, 9003, .inl (fun _ => 0))), (q3, .inr (5, [.ref q4])), (q4, .inl (E.2.2.1 0, 3120, .inl (fun _ => 0))), (q5, .inr (5, [.ref q6])), (q6, .inl (E.2.2.1 0, 1602, .inl (fun _ => 0))), (q7, .inr (5, [.ref q8])), (q8, .inl (E.2.2.1 0, 4096, .inl (fun _ => 0))), (q10, .inr (5, [.ref q11])), (q11, .inl (E.2.2.1 0, 1600, .inl (fun _ => 0))), (q13, .inr (5, [.ref q14])), (q14, .inl (E.2.2.1 0, 1600, .inl (fun _ => 0)))]) rfl ?_
  refine zb_num (k' := 12) (n' := 21033) (by decide) (by decide) ?_
  exact zb_vret ⟨q1, q2, q3, q4, q5, q6, q7, q8, q10, q11, q13, q14, rfl⟩ (by omega) (by omega) dX7_init_64
def pw_X4 (E : zE) (h0 : Nat) (a1 : Nat) (a2 : Nat) (a3 : Nat) (w : va_W) : Prop := ∃ q1 q2 q3 q4 q5 q6 q7 q8 q9 q10 q11 q13 q14 q15 q16 q17 q18 q19 q20 q21 q22 q23 q24 q25 q26 q27 q28 q29 q30 q31 q32 q33 q35 q36 q38 q39 q41 q42 : Nat, w = [(h0, .inr (4, [.ref a1, .ref a2, .ref a3, .ref q1, .ref q13, .ref q35, .ref q38, .ref q41, .int 0, .int 0, .int 0, .int 0, .int 0, .int 0, .int 0, .int 0, .int (-1)])), (q1, .inr (0, [.ref q2, .ref q4, .ref q6, .ref q8, .ref q10, .int 0, .int 0, .int 0, .int 0, .int 0])), (q2, .inr (5, [.ref q3])), (q3, .inl (E.2.2.1 0, 10000, .inl (fun _ => 0))), (q4, .inr (5, [.ref q5])), (q5, .inl (E.2.2.1 0, 3336, .inl (fun _ => 0))), (q6, .inr (5, [.ref q7])), (q7, .inl (E.2.2.1 0, 3336, .inl (fun _ => 0))), (q8, .inr (5, [.ref q9])), (q9, .inl (E.2.2.1 0, 1668, .inl (fun _ => 0))), (q10, .inr (5, [.ref q11])), (q11, .inl (E.2.2.1 0, 1668, .inl (fun _ => 0))), (q13, .inr (8, [.ref q14, .ref q16, .ref q18, .ref q20, .ref q22, .ref q24, .ref q26, .ref q28, .ref q30, .ref q32, .int 0, .int 0, .int 0, .int 0, .int 0, .int 0, .int 0, .int 0])), (q14, .inr (5, [.ref q15])), (q15, .inl (E.2.2.1 0, 2501, .inl (fun _ => 0))), (q16, .inr (5, [.ref q17])), (q17, .inl (E.2.2.1 0, 2501, .inl (fun _ => 0))), (q18, .inr (5, [.ref q19])), (q19, .inl (E.2.2.1 0, 2501, .inl (fun _ => 0))), (q20, .inr (5, [.ref q21])), (q21, .inl (E.2.2.1 0, 2501, .inl (fun _ => 0))), (q22, .inr (5, [.ref q23])), (q23, .inl (E.2.2.1 0, 2501, .inl (fun _ => 0))), (q24, .inr (5, [.ref q25])), (q25, .inl (E.2.2.1 0, 2501, .inl (fun _ => 0))), (q26, .inr (5, [.ref q27])), (q27, .inl (E.2.2.1 0, 2501, .inl (fun _ => 0))), (q28, .inr (5, [.ref q29])), (q29, .inl (E.2.2.1 0, 2501, .inl (fun _ => 0))), (q30, .inr (5, [.ref q31])), (q31, .inl (E.2.2.1 0, 24000, .inl (fun _ => 0))), (q32, .inr (5, [.ref q33])), (q33, .inl (E.2.2.1 0, 24000, .inl (fun _ => 0))), (q35, .inr (5, [.ref q36])), (q36, .inl (E.2.2.1 0, 1600, .inl (fun _ => 0))), (q38, .inr (5, [.ref q39])), (q39, .inl (E.2.2.1 0, 300, .inl (fun _ => 0))), (q41, .inr (5, [.ref q42])), (q42, .inl (E.2.2.1 0, 500, .inl (fun _ => 0)))]
theorem dX4_init_0 : decode cX4_init 0 = .ok (.aload_n 0, 1) := by decide +kernel
theorem dX4_init_1 : decode cX4_init 1 = .ok (.invokespecial 3, 3) := by decide +kernel
theorem dX4_init_4 : decode cX4_init 4 = .ok (.aload_n 0, 1) := by decide +kernel
theorem dX4_init_5 : decode cX4_init 5 = .ok (.new 9, 3) := by decide +kernel
theorem dX4_init_8 : decode cX4_init 8 = .ok (.dup, 1) := by decide +kernel
theorem dX4_init_9 : decode cX4_init 9 = .ok (.invokespecial 11, 3) := by decide +kernel
theorem dX4_init_12 : decode cX4_init 12 = .ok (.putfield 12, 3) := by decide +kernel
theorem dX4_init_15 : decode cX4_init 15 = .ok (.aload_n 0, 1) := by decide +kernel
theorem dX4_init_16 : decode cX4_init 16 = .ok (.new 18, 3) := by decide +kernel
theorem dX4_init_19 : decode cX4_init 19 = .ok (.dup, 1) := by decide +kernel
theorem dX4_init_20 : decode cX4_init 20 = .ok (.invokespecial 20, 3) := by decide +kernel
theorem dX4_init_23 : decode cX4_init 23 = .ok (.putfield 21, 3) := by decide +kernel
theorem dX4_init_26 : decode cX4_init 26 = .ok (.aload_n 0, 1) := by decide +kernel
theorem dX4_init_27 : decode cX4_init 27 = .ok (.new 25, 3) := by decide +kernel
theorem dX4_init_30 : decode cX4_init 30 = .ok (.dup, 1) := by decide +kernel
theorem dX4_init_31 : decode cX4_init 31 = .ok (.sipush 1600, 3) := by decide +kernel
theorem dX4_init_34 : decode cX4_init 34 = .ok (.invokespecial 27, 3) := by decide +kernel
theorem dX4_init_37 : decode cX4_init 37 = .ok (.putfield 30, 3) := by decide +kernel
theorem dX4_init_40 : decode cX4_init 40 = .ok (.aload_n 0, 1) := by decide +kernel
theorem dX4_init_41 : decode cX4_init 41 = .ok (.new 25, 3) := by decide +kernel
theorem dX4_init_44 : decode cX4_init 44 = .ok (.dup, 1) := by decide +kernel
theorem dX4_init_45 : decode cX4_init 45 = .ok (.sipush 300, 3) := by decide +kernel
theorem dX4_init_48 : decode cX4_init 48 = .ok (.invokespecial 27, 3) := by decide +kernel
theorem dX4_init_51 : decode cX4_init 51 = .ok (.putfield 34, 3) := by decide +kernel
theorem dX4_init_54 : decode cX4_init 54 = .ok (.aload_n 0, 1) := by decide +kernel
theorem dX4_init_55 : decode cX4_init 55 = .ok (.new 25, 3) := by decide +kernel
theorem dX4_init_58 : decode cX4_init 58 = .ok (.dup, 1) := by decide +kernel
theorem dX4_init_59 : decode cX4_init 59 = .ok (.sipush 500, 3) := by decide +kernel
theorem dX4_init_62 : decode cX4_init 62 = .ok (.invokespecial 27, 3) := by decide +kernel
theorem dX4_init_65 : decode cX4_init 65 = .ok (.putfield 37, 3) := by decide +kernel
theorem dX4_init_68 : decode cX4_init 68 = .ok (.aload_n 0, 1) := by decide +kernel
theorem dX4_init_69 : decode cX4_init 69 = .ok (.iconst (-1), 1) := by decide +kernel
theorem dX4_init_70 : decode cX4_init 70 = .ok (.putfield 40, 3) := by decide +kernel
theorem dX4_init_73 : decode cX4_init 73 = .ok (.aload_n 0, 1) := by decide +kernel
theorem dX4_init_74 : decode cX4_init 74 = .ok (.aload_n 1, 1) := by decide +kernel
theorem dX4_init_75 : decode cX4_init 75 = .ok (.putfield 44, 3) := by decide +kernel
theorem dX4_init_78 : decode cX4_init 78 = .ok (.aload_n 0, 1) := by decide +kernel
theorem dX4_init_79 : decode cX4_init 79 = .ok (.aload_n 2, 1) := by decide +kernel
theorem dX4_init_80 : decode cX4_init 80 = .ok (.putfield 48, 3) := by decide +kernel
theorem dX4_init_83 : decode cX4_init 83 = .ok (.aload_n 0, 1) := by decide +kernel
theorem dX4_init_84 : decode cX4_init 84 = .ok (.aload_n 3, 1) := by decide +kernel
theorem dX4_init_85 : decode cX4_init 85 = .ok (.putfield 52, 3) := by decide +kernel
theorem dX4_init_88 : decode cX4_init 88 = .ok (.return_, 1) := by decide +kernel
set_option maxHeartbeats 8000000 in
set_option maxRecDepth 100000 in
theorem con_X4 {E : zE} (h0 : Nat) (a1 : Nat) (a2 : Nat) (a3 : Nat) : zCon E yX4_init cX4_init 4 3 38 90462 [.ref h0, .ref a1, .ref a2, .ref a3] [(h0, .inr (4, [.null, .null, .null, .null, .null, .null, .null, .null, .int 0, .int 0, .int 0, .int 0, .int 0, .int 0, .int 0, .int 0, .int 0]))] (pw_X4 E h0 a1 a2 a3) := by
  refine zCon_of (by decide) rfl (Nat.le_of_ble_eq_true rfl) (fun C A => ?_)
  show zB E C cX4_init RX4 4 3 38 90462 A _ _ 0 0 0 [(0, .ref h0), (1, .ref a1), (2, .ref a2), (3, .ref a3)] []
  refine zb_aload_n 0 dX4_init_0 rfl rfl ?_
  refine zb_obj lo_X4_3 oi1 oi2 (by omega) (Nat.le_of_ble_eq_true rfl) dX4_init_1 ?_
  refine zb_aload_n 0 dX4_init_4 rfl rfl ?_
  refine zb_new mk_X4_9 (by omega) (by omega) dX4_init_5 (fun q1 => ?_)
  refine zb_eq (ws' := [(h0, .inr (4, [.null, .null, .null, .null, .null, .null, .null, .null, .int 0, .int 0, .int 0, .int 0, .int 0, .int 0, .int 0, .int 0, .int 0])), (q1, .inr (0, [.null, .null, .null, .null, .null, .int 0, .int 0, .int 0, .int 0, .int 0]))]) rfl ?_
  refine zb_num (k' := 1) (n' := 10) (by decide) (by decide) ?_
  refine zb_dup dX4_init_8 rfl ?_
  refine zb_call (con_X0 (E := E) q1 ) yy_X0_init rfl yi_X0_init li_X4_11 (by omega) rfl rfl (Nat.le_of_ble_eq_true rfl) [1] [0] rfl rfl (by decide) (by decide) (by decide) (by omega) (by omega) dX4_init_9 (fun w1 hw12 => ?_)
  obtain ⟨q2, q3, q4, q5, q6, q7, q8, q9, q10, q11, rfl⟩ := hw12
  refine zb_eq (ws' := [(h0, .inr (4, [.null, .null, .null, .null, .null, .null, .null, .null, .int 0, .int 0, .int 0, .int 0, .int 0, .int 0, .int 0, .int 0, .int 0])), (q1, .inr (0, [.ref q2, .ref q4, .ref q6, .ref q8, .ref q10, .int 0, .int 0, .int 0, .int 0, .int 0])), (q2, .inr (5, [.ref q3])), (q3, .inl (E.2.2.1 0, 10000, .inl (fun _ => 0))), (q4, .inr (5, [.ref q5])), (q5, .inl (E.2.2.1 0, 3336, .inl (fun _ => 0))), (q6, .inr (5, [.ref q7])), (q7, .inl (E.2.2.1 0, 3336, .inl (fun _ => 0))), (q8, .inr (5, [.ref q9])), (q9, .inl (E.2.2.1 0, 1668, .inl (fun _ => 0))), (q10, .inr (5, [.ref q11])), (q11, .inl (E.2.2.1 0, 1668, .inl (fun _ => 0)))]) rfl ?_
  refine zb_num (k' := 11) (n' := 20023) (by decide) (by decide) ?_
  refine zb_putF (q0 := 0) pf_X4_12 rfl (Nat.le_of_ble_eq_true rfl) dX4_init_12 ?_
  refine zb_eq (ws' := [(h0, .inr (4, [.null, .null, .null, .ref q1, .null, .null, .null, .null, .int 0, .int 0, .int 0, .int 0, .int 0, .int 0, .int 0, .int 0, .int 0])), (q1, .inr (0, [.ref q2, .ref q4, .ref q6, .ref q8, .ref q10, .int 0, .int 0, .int 0, .int 0, .int 0])), (q2, .inr (5, [.ref q3])), (q3, .inl (E.2.2.1 0, 10000, .inl (fun _ => 0))), (q4, .inr (5, [.ref q5])), (q5, .inl (E.2.2.1 0, 3336, .inl (fun _ => 0))), (q6, .inr (5, [.ref q7])), (q7, .inl (E.2.2.1 0, 3336, .inl (fun _ => 0))), (q8, .inr (5, [.ref q9])), (q9, .inl (E.2.2.1 0, 1668, .inl (fun _ => 0))), (q10, .inr (5, [.ref q11])), (q11, .inl (E.2.2.1 0, 1668, .inl (fun _ => 0)))]) rfl ?_
  refine zb_num (k' := 11) (n' := 20023) (by decide) (by decide) ?_
  refine zb_aload_n 0 dX4_init_15 rfl rfl ?_
  refine zb_new mk_X4_18 (by omega) (by omega) dX4_init_16 (fun q13 => ?_)
  refine zb_eq (ws' := [(h0, .inr (4, [.null, .null, .null, .ref q1, .null, .null, .null, .null, .int 0, .int 0, .int 0, .int 0, .int 0, .int 0, .int 0, .int 0, .int 0])), (q1, .inr (0, [.ref q2, .ref q4, .ref q6, .ref q8, .ref q10, .int 0, .int 0, .int 0, .int 0, .int 0])), (q2, .inr (5, [.ref q3])), (q3, .inl (E.2.2.1 0, 10000, .inl (fun _ => 0))), (q4, .inr (5, [.ref q5])), (q5, .inl (E.2.2.1 0, 3336, .inl (fun _ => 0))), (q6, .inr (5, [.ref q7])), (q7, .inl (E.2.2.1 0, 3336, .inl (fun _ => 0))), (q8, .inr (5, [.ref q9])), (q9, .inl (E.2.2.1 0, 1668, .inl (fun _ => 0))), (q10, .inr (5, [.ref q11])), (q11, .inl (E.2.2.1 0, 1668, .inl (fun _ => 0))), (q13, .inr (8, [.null, .null, .null, .null, .null, .null, .null, .null, .null, .null, .int 0, .int 0, .int 0, .int 0, .int 0, .int 0, .int 0, .int 0]))]) rfl ?_
  refine zb_num (k' := 12) (n' := 20041) (by decide) (by decide) ?_
  refine zb_dup dX4_init_19 rfl ?_
  refine zb_call (con_X8 (E := E) q13 ) yy_X8_init rfl yi_X8_init li_X4_20 (by omega) rfl rfl (Nat.le_of_ble_eq_true rfl) [12] [0, 1, 2, 3, 4, 5, 6, 7, 8, 9, 10, 11] rfl rfl (by decide) (by decide) (by decide) (by omega) (by omega) dX4_init_20 (fun w1 hw34 => ?_)
  obtain ⟨q14, q15, q16, q17, q18, q19, q20, q21, q22, q23, q24, q25, q26, q27, q28, q29, q30, q31, q32, q33, rfl⟩ := hw34
  refine zb_eq (ws' := [(h0, .inr (4, [.null, .null, .null, .ref q1, .null, .null, .null, .null, .int 0, .int 0, .int 0, .int 0, .int 0, .int 0, .int 0, .int 0, .int 0])), (q1, .inr (0, [.ref q2, .ref q4, .ref q6, .ref q8, .ref q10, .int 0, .int 0, .int 0, .int 0, .int 0])), (q2, .inr (5, [.ref q3])), (q3, .inl (E.2.2.1 0, 10000, .inl (fun _ => 0))), (q4, .inr (5, [.ref q5])), (q5, .inl (E.2.2.1 0, 3336, .inl (fun _ => 0))), (q6, .inr (5, [.ref q7])), (q7, .inl (E.2.2.1 0, 3336, .inl (fun _ => 0))), (q8, .inr (5, [.ref q9])), (q9, .inl (E.2.2.1 0, 1668, .inl (fun _ => 0))), (q10, .inr (5, [.ref q11])), (q11, .inl (E.2.2.1 0, 1668, .inl (fun _ => 0))), (q13, .inr (8, [.ref q14, .ref q16, .ref q18, .ref q20, .ref q22, .ref q24, .ref q26, .ref q28, .ref q30, .ref q32, .int 0, .int 0, .int 0, .int 0, .int 0, .int 0, .int 0, .int 0])), (q14, .inr (5, [.ref q15])), (q15, .inl (E.2.2.1 0, 2501, .inl (fun _ => 0))), (q16, .inr (5, [.ref q17])), (q17, .inl (E.2.2.1 0, 2501, .inl (fun _ => 0))), (q18, .inr (5, [.ref q19])), (q19, .inl (E.2.2.1 0, 2501, .inl (fun _ => 0))), (q20, .inr (5, [.ref q21])), (q21, .inl (E.2.2.1 0, 2501, .inl (fun _ => 0))), (q22, .inr (5, [.ref q23])), (q23, .inl (E.2.2.1 0, 2501, .inl (fun _ => 0))), (q24, .inr (5, [.ref q25])), (q25, .inl (E.2.2.1 0, 2501, .inl (fun _ => 0))), (q26, .inr (5, [.ref q27])), (q27, .inl (E.2.2.1 0, 2501, .inl (fun _ => 0))), (q28, .inr (5, [.ref q29])), (q29, .inl (E.2.2.1 0, 2501, .inl (fun _ => 0))), (q30, .inr (5, [.ref q31])), (q31, .inl (E.2.2.1 0, 24000, .inl (fun _ => 0))), (q32, .inr (5, [.ref q33])), (q33, .inl (E.2.2.1 0, 24000, .inl (fun _ => 0)))]) rfl ?_
  refine zb_num (k' := 32) (n' := 88059) (by decide) (by decide) ?_
  refine zb_putF (q0 := 0) pf_X4_21 rfl (Nat.le_of_ble_eq_true rfl) dX4_init_23 ?_
  refine zb_eq (ws' := [(h0, .inr (4, [.null, .null, .null, .ref q1, .ref q13, .null, .null, .null, .int 0, .int 0, .int 0, .int 0, .int 0, .int 0, .int 0, .int 0, .int 0])), (q1, .inr (0, [.ref q2, .ref q4, .ref q6, .ref q8, .ref q10, .int 0, .int 0, .int 0, .int 0, .int 0])), (q2, .inr (5, [.ref q3])), (q3, .inl (E.2.2.1 0, 10000, .inl (fun _ => 0))), (q4, .inr (5, [.ref q5])), (q5, .inl (E.2.2.1 0, 3336, .inl (fun _ => 0))), (q6, .inr (5, [.ref q7])), (q7, .inl (E.2.2.1 0, 3336, .inl (fun _ => 0))), (q8, .inr (5, [.ref q9])), (q9, .inl (E.2.2.1 0, 1668, .inl (fun _ => 0))), (q10, .inr (5, [.ref q11])), (q11, .inl (E.2.2.1 0, 1668, .inl (fun _ => 0))), (q13, .inr (8, [.ref q14, .ref q16, .ref q18, .ref q20, .ref q22, .ref q24, .ref q26, .ref q28, .ref q30, .ref q32, .int 0, .int 0, .int 0, .int 0, .int 0, .int 0, .int 0, .int 0])), (q14, .inr (5, [.ref q15])), (q15, .inl (E.2.2.1 0, 2501, .inl (fun _ => 0))), (q16, .inr (5, [.ref q17])), (q17, .inl (E.2.2.1 0, 2501, .inl (fun _ => 0))), (q18, .inr (5, [.ref q19])), (q19, .inl (E.2.2.1 0, 2501, .inl (fun _ => 0))), (q20, .inr (5, [.ref q21])), (q21, .inl (E.2.2.1 0, 2501, .inl (fun _ => 0))), (q22, .inr (5, [.ref q23])), (q23, .inl (E.2.2.1 0, 2501, .inl (fun _ => 0))), (q24, .inr (5, [.ref q25])), (q25, .inl (E.2.2.1 0, 2501, .inl (fun _ => 0))), (q26, .inr (5, [.ref q27])), (q27, .inl (E.2.2.1 0, 2501, .inl (fun _ => 0))), (q28, .inr (5, [.ref q29])), (q29, .inl (E.2.2.1 0, 2501, .inl (fun _ => 0))), (q30, .inr (5, [.ref q31])), (q31, .inl (E.2.2.1 0, 24000, .inl (fun _ => 0))), (q32, .inr (5, [.ref q33])), (q33, .inl (E.2.2.1 0, 24000, .inl (fun _ => 0)))]) rfl ?_
  refine zb_num (k' := 32) (n' := 88059) (by decide) (by decide) ?_
  refine zb_aload_n 0 dX4_init_26 rfl rfl ?_
  refine zb_new mk_X4_25 (by omega) (by omega) dX4_init_27 (fun q35 => ?_)
  refine zb_eq (ws' := [(h0, .inr (4, [.null, .null, .null, .ref q1, .ref q13, .null, .null, .null, .int 0, .int 0, .int 0, .int 0, .int 0, .int 0, .int 0, .int 0, .int 0])), (q1, .inr (0, [.ref q2, .ref q4, .ref q6, .ref q8, .ref q10, .int 0, .int 0, .int 0, .int 0, .int 0])), (q2, .inr (5, [.ref q3])), (q3, .inl (E.2.2.1 0, 10000, .inl (fun _ => 0))), (q4, .inr (5, [.ref q5])), (q5, .inl (E.2.2.1 0, 3336, .inl (fun _ => 0))), (q6, .inr (5, [.ref q7])), (q7, .inl (E.2.2.1 0, 3336, .inl (fun _ => 0))), (q8, .inr (5, [.ref q9])), (q9, .inl (E.2.2.1 0, 1668, .inl (fun _ => 0))), (q10, .inr (5, [.ref q11])), (q11, .inl (E.2.2.1 0, 1668, .inl (fun _ => 0))), (q13, .inr (8, [.ref q14, .ref q16, .ref q18, .ref q20, .ref q22, .ref q24, .ref q26, .ref q28, .ref q30, .ref q32, .int 0, .int 0, .int 0, .int 0, .int 0, .int 0, .int 0, .int 0])), (q14, .inr (5, [.ref q15])), (q15, .inl (E.2.2.1 0, 2501, .inl (fun _ => 0))), (q16, .inr (5, [.ref q17])), (q17, .inl (E.2.2.1 0, 2501, .inl (fun _ => 0))), (q18, .inr (5, [.ref q19])), (q19, .inl (E.2.2.1 0, 2501, .inl (fun _ => 0))), (q20, .inr (5, [.ref q21])), (q21, .inl (E.2.2.1 0, 2501, .inl (fun _ => 0))), (q22, .inr (5, [.ref q23])), (q23, .inl (E.2.2.1 0, 2501, .inl (fun _ => 0))), (q24, .inr (5, [.ref q25])), (q25, .inl (E.2.2.1 0, 2501, .inl (fun _ => 0))), (q26, .inr (5, [.ref q27])), (q27, .inl (E.2.2.1 0, 2501, .inl (fun _ => 0))), (q28, .inr (5, [.ref q29])), (q29, .inl (E.2.2.1 0, 2501, .inl (fun _ => 0))), (q30, .inr (5, [.ref q31])), (q31, .inl (E.2.2.1 0, 24000, .inl (fun _ => 0))), (q32, .inr (5, [.ref q33])), (q33, .inl (E.2.2.1 0, 24000, .inl (fun _ => 0))), (q35, .inr (5, [.null]))]) rfl ?_
  refine zb_num (k' := 33) (n' := 88060) (by decide) (by decide) ?_
  refine zb_dup dX4_init_30 rfl ?_
  refine zb_sipush (v := 1600) dX4_init_31 (by decide) ?_
  refine zb_call (con_X5 (E := E) q35 1600 1600 (by decide) (by decide) (by decide)) yy_X5_init rfl yi_X5_init li_X4_27 (by omega) rfl rfl (Nat.le_of_ble_eq_true rfl) [33] [0, 1, 2, 3, 4, 5, 6, 7, 8, 9, 10, 11, 12, 13, 14, 15, 16, 17, 18, 19, 20, 21, 22, 23, 24, 25, 26, 27, 28, 29, 30, 31, 32] rfl rfl (by decide) (by decide) (by decide) (by omega) (by omega) dX4_init_34 (fun w1 hw37 => ?_)
  obtain ⟨q36, rfl⟩ := hw37
  refine zb_eq (ws' := [(h0, .inr (4, [.null, .null, .null, .ref q1, .ref q13, .null, .null, .null, .int 0, .int 0, .int 0, .int 0, .int 0, .int 0, .int 0, .int 0, .int 0])), (q1, .inr (0, [.ref q2, .ref q4, .ref q6, .ref q8, .ref q10, .int 0, .int 0, .int 0, .int 0, .int 0])), (q2, .inr (5, [.ref q3])), (q3, .inl (E.2.2.1 0, 10000, .inl (fun _ => 0))), (q4, .inr (5, [.ref q5])), (q5, .inl (E.2.2.1 0, 3336, .inl (fun _ => 0))), (q6, .inr (5, [.ref q7])), (q7, .inl (E.2.2.1 0, 3336, .inl (fun _ => 0))), (q8, .inr (5, [.ref q9])), (q9, .inl (E.2.2.1 0, 1668, .inl (fun _ => 0))), (q10, .inr (5, [.ref q11])), (q11, .inl (E.2.2.1 0, 1668, .inl (fun _ => 0))), (q13, .inr (8, [.ref q14, .ref q16, .ref q18, .ref q20, .ref q22, .ref q24, .ref q26, .ref q28, .ref q30, .ref q32, .int 0, .int 0, .int 0, .int 0, .int 0, .int 0, .int 0, .int 0])), (q14, .inr (5, [.ref q15])), (q15, .inl (E.2.2.1 0, 2501, .inl (fun _ => 0))), (q16, .inr (5, [.ref q17])), (q17, .inl (E.2.2.1 0, 2501, .inl (fun _ => 0))), (q18, .inr (5, [.ref q19])), (q19, .inl (E.2.2.1 0, 2501, .inl (fun _ => 0))), (q20, .inr (5, [.ref q21])), (q21, .inl (E.2.2.1 0, 2501, .inl (fun _ => 0))), (q22, .inr (5, [.ref q23])), (q23, .inl (E.2.2.1 0, 2501, .inl (fun _ => 0))), (q24, .inr (5, [.ref q25])), (q25, .inl (E.2.2.1 0, 2501, .inl (fun _ => 0))), (q26, .inr (5, [.ref q27])), (q27, .inl (E.2.2.1 0, 2501, .inl (fun _ => 0))), (q28, .inr (5, [.ref q29])), (q29, .inl (E.2.2.1 0, 2501, .inl (fun _ => 0))), (q30, .inr (5, [.ref q31])), (q31, .inl (E.2.2.1 0, 24000, .inl (fun _ => 0))), (q32, .inr (5, [.ref q33])), (q33, .inl (E.2.2.1 0, 24000, .inl (fun _ => 0))), (q35, .inr (5, [.ref q36])), (q36, .inl (E.2.2.1 0, 1600, .inl (fun _ => 0)))]) rfl ?_
  refine zb_num (k' := 34) (n' := 89660) (by decide) (by decide) ?_
  refine zb_putF (q0 := 0) pf_X4_30 rfl (Nat.le_of_ble_eq_true rfl) dX4_init_37 ?_
  refine zb_eq (ws' := [(h0, .inr (4, [.null, .null, .null, .ref q1, .ref q13, .ref q35, .null, .null, .int 0, .int 0, .int 0, .int 0, .int 0, .int 0, .int 0, .int 0, .int 0])), (q1, .inr (0, [.ref q2, .ref q4, .ref q6, .ref q8, .ref q10, .int 0, .int 0, .int 0, .int 0, .int 0])), (q2, .inr (5, [.ref q3])), (q3, .inl (E.2.2.1 0, 10000, .inl (fun _ => 0))), (q4, .inr (5, [.ref q5])), (q5, .inl (E.2.2.1 0, 3336, .inl (fun _ => 0))), (q6, .inr (5, [.ref q7])), (q7, .inl (E.2.2.1 0, 3336, .inl (fun _ => 0))), (q8, .inr (5, [.ref q9])), (q9, .inl (E.2.2.1 0, 1668, .inl (fun _ => 0))), (q10, .inr (5, [.ref q11])), (q11, .inl (E.2.2.1 0, 1668, .inl (fun _ => 0))), (q13, .inr (8, [.ref q14, .ref q16, .ref q18, .ref q20, .ref q22, .ref q24, .ref q26, .ref q28, .ref q30, .ref q32, .int 0, .int 0, .int 0, .int 0, .int 0, .int 0, .int 0, .int 0])), (q14, .inr (5, [.ref q15])), (q15, .inl (E.2.2.1 0, 2501, .inl (fun _ => 0))), (q16, .inr (5, [.ref q17])), (q17, .inl (E.2.2.1 0, 2501, .inl (fun _ => 0))), (q18, .inr (5, [.ref q19])), (q19, .inl (E.2.2.1 0, 2501, .inl (fun _ => 0))), (q20, .inr (5, [.ref q21])), (q21, .inl (E.2.2.1 0, 2501, .inl (fun _ => 0))), (q22, .inr (5, [.ref q23])), (q23, .inl (E.2.2.1 0, 2501, .inl (fun _ => 0))), (q24, .inr (5, [.ref q25])), (q25, .inl (E.2.2.1 0, 2501, .inl (fun _ => 0))), (q26, .inr (5, [.ref q27])), (q27, .inl (E.2.2.1 0, 2501, .inl (fun _ => 0))), (q28, .inr (5, [.ref q29])), (q29, .inl (E.2.2.1 0, 2501, .inl (fun _ => 0))), (q30, .inr (5, [.ref q31])), (q31, .inl (E.2.2.1 0, 24000, .inl (fun _ => 0))), (q32, .inr (5, [.ref q33])), (q33, .inl (E.2.2.1 0, 24000, .inl (fun _ => 0))), (q35, .inr (5, [.ref q36])), (q36, .inl (E.2.2.1 0, 1600, .inl (fun _ => 0)))]) rfl ?_
  refine zb_num (k' := 34) (n' := 89660) (by decide) (by decide) ?_
  refine zb_aload_n 0 dX4_init_40 rfl rfl ?_
  refine zb_new mk_X4_25 (by omega) (by omega) dX4_init_41 (fun q38 => ?_)
  refine zb_eq (ws' := [(h0, .inr (4, [.null, .null, .null, .ref q1, .ref q13, .ref q35, .null, .null, .int 0, .int 0, .int 0, .int 0, .int 0, .int 0, .int 0, .int 0, .int 0])), (q1, .inr (0, [.ref q2, .ref q4, .ref q6, .ref q8, .ref q10, .int 0, .int 0, .int 0, .int 0, .int 0])), (q2, .inr (5, [.ref q3])), (q3, .inl (E.2.2.1 0, 10000, .inl (fun _ => 0))), (q4, .inr (5, [.ref q5])), (q5, .inl (E.2.2.1 0, 3336, .inl (fun _ => 0))), (q6, .inr (5, [.ref q7])), (q7, .inl (E.2.2.1 0, 3336, .inl (fun _ => 0))), (q8, .inr (5, [.ref q9])), (q9, .inl (E.2.2.1 0, 1668, .inl (fun _ => 0))), (q10, .inr (5, [.ref q11])), (q11, .inl (E.2.2.1 0, 1668, .inl (fun _ => 0))), (q13, .inr (8, [.ref q14, .ref q16, .ref q18, .ref q20, .ref q22, .ref q24, .ref q26, .ref q28, .ref q30, .ref q32, .int 0, .int 0, .int 0, .int 0, .int 0, .int 0, .int 0, .int 0])), (q14, .inr (5, [.ref q15])), (q15, .inl (E.2.2.1 0, 2501, .inl (fun _ => 0))), (q16, .inr (5, [.ref q17])), (q17, .inl (E.2.2.1 0, 2501, .inl (fun _ => 0))), (q18, .inr (5, [.ref q19])), (q19, .inl (E.2.2.1 0, 2501, .inl (fun _ => 0))), (q20, .inr (5, [.ref q21])), (q21, .inl (E.2.2.1 0, 2501, .inl (fun _ => 0))), (q22, .inr (5, [.ref q23])), (q23, .inl (E.2.2.1 0, 2501, .inl (fun _ => 0))), (q24, .inr (5, [.ref q25])), (q25, .inl (E.2.2.1 0, 2501, .inl (fun _ => 0))), (q26, .inr (5, [.ref q27])), (q27, .inl (E.2.2.1 0, 2501, .inl (fun _ => 0))), (q28, .inr (5, [.ref q29])), (q29, .inl (E.2.2.1 0, 2501, .inl (fun _ => 0))), (q30, .inr (5, [.ref q31])), (q31, .inl (E.2.2.1 0, 24000, .inl (fun _ => 0))), (q32, .inr (5, [.ref q33])), (q33, .inl (E.2.2.1 0, 24000, .inl (fun _ => 0))), (q35, .inr (5, [.ref q36])), (q36, .inl (E.2.2.1 0, 1600, .inl (fun _ => 0))), (q38, .inr (5, [.null]))]) rfl ?_
  refine zb_num (k' := 35) (n' := 89661) (by decide) (by decide) ?_
  refine zb_dup dX4_init_44 rfl ?_
  refine zb_sipush (v := 300) dX4_init_45 (by decide) ?_
  refine zb_call (con_X5 (E := E) q38 300 300 (by decide) (by decide) (by decide)) yy_X5_init rfl yi_X5_init li_X4_27 (by omega) rfl rfl (Nat.le_of_ble_eq_true rfl) [35] [0, 1, 2, 3, 4, 5, 6, 7, 8, 9, 10, 11, 12, 13, 14, 15, 16, 17, 18, 19, 20, 21, 22, 23, 24, 25, 26, 27, 28, 29, 30, 31, 32, 33, 34] rfl rfl (by decide) (by decide) (by decide) (by omega) (by omega) dX4_init_48 (fun w1 hw40 => ?_)
  obtain ⟨q39, rfl⟩ := hw40
  refine zb_eq (ws' := [(h0, .inr (4, [.null, .null, .null, .ref q1, .ref q13, .ref q35, .null, .null, .int 0, .int 0, .int 0, .int 0, .int 0, .int 0, .int 0, .int 0, .int 0])), (q1, .inr (0, [.ref q2, .ref q4, .ref q6, .ref q8, .ref q10, .int 0, .int 0, .int 0, .int 0, .int 0])), (q2, .inr (5, [.ref q3])), (q3, .inl (E.2.2.1 0, 10000, .inl (fun _ => 0))), (q4, .inr (5, [.ref q5])), (q5, .inl (E.2.2.1 0, 3336, .inl (fun _ => 0))), (q6, .inr (5, [.ref q7])), (q7, .inl (E.2.2.1 0, 3336, .inl (fun _ => 0))), (q8, .inr (5, [.ref q9])), (q9, .inl (E.2.2.1 0, 1668, .inl (fun _ => 0))), (q10, .inr (5, [.ref q11])), (q11, .inl (E.2.2.1 0, 1668, .inl (fun _ => 0))), (q13, .inr (8, [.ref q14, .ref q16, .ref q18, .ref q20, .ref q22, .ref q24, .ref q26, .ref q28, .ref q30, .ref q32, .int 0, .int 0, .int 0, .int 0, .int 0, .int 0, .int 0, .int 0])), (q14, .inr (5, [.ref q15])), (q15, .inl (E.2.2.1 0, 2501, .inl (fun _ => 0))), (q16, .inr (5, [.ref q17])), (q17, .inl (E.2.2.1 0, 2501, .inl (fun _ => 0))), (q18, .inr (5, [.ref q19])), (q19, .inl (E.2.2.1 0, 2501, .inl (fun _ => 0))), (q20, .inr (5, [.ref q21])), (q21, .inl (E.2.2.1 0, 2501, .inl (fun _ => 0))), (q22, .inr (5, [.ref q23])), (q23, .inl (E.2.2.1 0, 2501, .inl (fun _ => 0))), (q24, .inr (5, [.ref q25])), (q25, .inl (E.2.2.1 0, 2501, .inl (fun _ => 0))), (q26, .inr (5, [.ref q27])), (q27, .inl (E.2.2.1 0, 2501, .inl (fun _ => 0))), (q28, .inr (5, [.ref q29])), (q29, .inl (E.2.2.1 0, 2501, .inl (fun _ => 0))), (q30, .inr (5, [.ref q31])), (q31, .inl (E.2.2.1 0, 24000, .inl (fun _ => 0))), (q32, .inr (5, [.ref q33])), (q33, .inl (E.2.2.1 0, 24000, .inl (fun _ => 0))), (q35, .inr (5, [.ref q36])), (q36, .inl (E.2.2.1 0, 1600, .inl (fun _ => 0))), (q38, .inr (5, [.ref q39])), (q39, .inl (E.2.2.1 0, 300, .inl (fun _ => 0)))]) rfl ?_
  refine zb_num (k' := 36) (n' := 89961) (by decide) (by decide) ?_
  refine zb_putF (q0 := 0) pf_X4_34 rfl (Nat.le_of_ble_eq_true rfl) dX4_init_51 ?_
  refine zb_eq (ws' := [(h0, .inr (4, [.null, .null, .null, .ref q1, .ref q13, .ref q35, .ref q38, .null, .int 0, .int 0, .int 0, .int 0, .int 0, .int 0, .int 0, .int 0, .int 0])), (q1, .inr (0, [.ref q2, .ref q4, .ref q6, .ref q8, .ref q10, .int 0, .int 0, .int 0, .int 0, .int 0])), (q2, .inr (5, [.ref q3])), (q3, .inl (E.2.2.1 0, 10000, .inl (fun _ => 0))), (q4, .inr (5, [.ref q5])), (q5, .inl (E.2.2.1 0, 3336, .inl (fun _ => 0))), (q6, .inr (5, [.ref q7])), (q7, .inl (E.2.2.1 0, 3336, .inl (fun _ => 0))), (q8, .inr (5, [.ref q9])), (q9, .inl (E.2.2.1 0, 1668, .inl (fun _ => 0))), (q10, .inr (5, [.ref q11])), (q11, .inl (E.2.2.1 0, 1668, .inl (fun _ => 0))), (q13, .inr (8, [.ref q14, .ref q16, .ref q18, .ref q20, .ref q22, .ref q24, .ref q26, .ref q28, .ref q30, .ref q32, .int 0, .int 0, .int 0, .int 0, .int 0, .int 0, .int 0, .int 0])), (q14, .inr (5, [.ref q15])), (q15, .inl (E.2.2.1 0, 2501, .inl (fun _ => 0))), (q16, .inr (5, [.ref q17])), (q17, .inl (E.2.2.1 0, 2501, .inl (fun _ => 0))), (q18, .inr (5, [.ref q19])), (q19, .inl (E.2.2.1 0, 2501, .inl (fun _ => 0))), (q20, .inr (5, [.ref q21])), (q21, .inl (E.2.2.1 0, 2501, .inl (fun _ => 0))), (q22, .inr (5, [.ref q23])), (q23, .inl (E.2.2.1 0, 2501, .inl (fun _ => 0))), (q24, .inr (5, [.ref q25])), (q25, .inl (E.2.2.1 0, 2501, .inl (fun _ => 0))), (q26, .inr (5, [.ref q27])), (q27, .inl (E.2.2.1 0, 2501, .inl (fun _ => 0))), (q28, .inr (5, [.ref q29])), (q29, .inl (E.2.2.1 0, 2501, .inl (fun _ => 0))), (q30, .inr (5, [.ref q31])), (q31, .inl (E.2.2.1 0, 24000, .inl (fun _ => 0))), (q32, .inr (5, [.ref q33])), (q33, .inl (E.2.2.1 0, 24000, .inl (fun _ => 0))), (q35, .inr (5, [.ref q36])), (q36, .inl (E.2.2.1 0, 1600, .inl (fun _ => 0))), (q38, .inr (5, [.ref q39])), (q39, .inl (E.2.2.1 0, 300, .inl (fun _ => 0)))]) rfl ?_
  refine zb_num (k' := 36) (n' := 89961) (by decide) (by decide) ?_
  refine zb_aload_n 0 dX4_init_54 rfl rfl ?_
  refine zb_new mk_X4_25 (by omega) (by omega) dX4_init_55 (fun q41 => ?_)
  refine zb_eq (ws' := [(h0, .inr (4, [.null, .null, .null, .ref q1, .ref q13, .ref q35, .ref q38, .null, .int 0, .int 0, .int 0, .int 0, .int 0, .int 0, .int 0, .int 0, .int 0])), (q1, .inr (0, [.ref q2, .ref q4, .ref q6, .ref q8, .ref q10, .int 0, .int 0, .int 0, .int 0, .int 0])), (q2, .inr (5, [.ref q3])), (q3, .inl (E.2.2.1 0, 10000, .inl (fun _ => 0))), (q4, .inr (5, [.ref q5])), (q5, .inl (E.2.2.1 0, 3336, .inl (fun _ => 0))), (q6, .inr (5, [.ref q7])), (q7, .inl (E.2.2.1 0, 3336, .inl (fun _ => 0))), (q8, .inr (5, [.ref q9])), (q9, .inl (E.2.2.1 0, 1668, .inl (fun _ => 0))), (q10, .inr (5, [.ref q11])), (q11, .inl (E.2.2.1 0, 1668, .inl (fun _ => 0))), (q13, .inr (8, [.ref q14, .ref q16, .ref q18, .ref q20, .ref q22, .ref q24, .ref q26, .ref q28, .ref q30, .ref q32, .int 0, .int 0, .int 0, .int 0, .int 0, .int 0, .int 0, .int 0])), (q14, .inr (5, [.ref q15])), (q15, .inl (E.2.2.1 0, 2501, .inl (fun _ => 0))), (q16, .inr (5, [.ref q17])), (q17, .inl (E.2.2.1 0, 2501, .inl (fun _ => 0))), (q18, .inr (5, [.ref q19])), (q19, .inl (E.2.2.1 0, 2501, .inl (fun _ => 0))), (q20, .inr (5, [.ref q21])), (q21, .inl (E.2.2.1 0, 2501, .inl (fun _ => 0))), (q22, .inr (5, [.ref q23])), (q23, .inl (E.2.2.1 0, 2501, .inl (fun _ => 0))), (q24, .inr (5, [.ref q25])), (q25, .inl (E.2.2.1 0, 2501, .inl (fun _ => 0))), (q26, .inr (5, [.ref q27])), (q27, .inl (E.2.2.1 0, 2501, .inl (fun _ => 0))), (q28, .inr (5, [.ref q29])), (q29, .inl (E.2.2.1 0, 2501, .inl (fun _ => 0))), (q30, .inr (5, [.ref q31])), (q31, .inl (E.2.2.1 0, 24000, .inl (fun _ => 0))), (q32, .inr (5, [.ref q33])), (q33, .inl (E.2.2.1 0, 24000, .inl (fun _ => 0))), (q35, .inr (5, [.ref q36])), (q36, .inl (E.2.2.1 0, 1600, .inl (fun _ => 0))), (q38, .inr (5, [.ref q39])), (q39, .inl (E.2.2.1 0, 300, .inl (fun _ => 0))), (q41, .inr (5, [.null]))]) rfl ?_
  refine zb_num (k' := 37) (n' := 89962) (by decide) (by decide) ?_
  refine zb_dup dX4_init_58 rfl ?_
  refine zb_sipush (v := 500) dX4_init_59 (by decide) ?_
  refine zb_call (con_X5 (E := E) q41 500 500 (by decide) (by decide) (by decide)) yy_X5_init rfl yi_X5_init li_X4_27 (by omega) rfl rfl (Nat.le_of_ble_eq_true rfl) [37] [0, 1, 2, 3, 4, 5, 6, 7, 8, 9, 10, 11, 12, 13, 14, 15, 16, 17, 18, 19, 20, 21, 22, 23, 24, 25, 26, 27, 28, 29, 30, 31, 32, 33, 34, 35, 36] rfl rfl (by decide) (by decide) (by decide) (by omega) (by omega) dX4_init_62 (fun w1 hw43 => ?_)
  obtain ⟨q42, rfl⟩ := hw43
  refine zb_eq (ws' := [(h0, .inr (4, [.null, .null, .null, .ref q1, .ref q13, .ref q35, .ref q38, .null, .int 0, .int 0, .int 0, .int 0, .int 0, .int 0, .int 0, .int 0, .int 0])), (q1, .inr (0, [.ref q2, .ref q4, .ref q6, .ref q8, .ref q10, .int 0, .int 0, .int 0, .int 0, .int 0])), (q2, .inr (5, [.ref q3])), (q3, .inl (E.2.2.1 0, 10000, .inl (fun _ => 0))), (q4, .inr (5, [.ref q5])), (q5, .inl (E.2.2.1 0, 3336, .inl (fun _ => 0))), (q6, .inr (5, [.ref q7])), (q7, .inl (E.2.2.1 0, 3336, .inl (fun _ => 0))), (q8, .inr (5, [.ref q9])), (q9, .inl (E.2.2.1 0, 1668, .inl (fun _ => 0))), (q10, .inr (5, [.ref q11])), (q11, .inl (E.2.2.1 0, 1668, .inl (fun _ => 0))), (q13, .inr (8, [.ref q14, .ref q16, .ref q18, .ref q20, .ref q22, .ref q24, .ref q26, .ref q28, .ref q30, .ref q32, .int 0, .int 0, .int 0, .int 0, .int 0, .int 0, .int 0, .int 0])), (q14, .inr (5, [.ref q15])), (q15, .inl (E.2.2.1 0, 2501, .inl (fun _ => 0))), (q16, .inr (5, [.ref q17])), (q17, .inl (E.2.2.1 0, 2501, .inl (fun _ => 0))), (q18, .inr (5, [.ref q19])), (q19, .inl (E.2.2.1 0, 2501, .inl (fun _ => 0))), (q20, .inr (5, [.ref q21])), (q21, .inl (E.2.2.1 0, 2501, .inl (fun _ => 0))), (q22, .inr (5, [.ref q23])), (q23, .inl (E.2.2.1 0, 2501, .inl (fun _ => 0))), (q24, .inr (5, [.ref q25])), (q25, .inl (E.2.2.1 0, 2501, .inl (fun _ => 0))), (q26, .inr (5, [.ref q27])), (q27, .inl (E.2.2.1 0, 2501, .inl (fun _ => 0))), (q28, .inr (5, [.ref q29])), (q29, .inl (E.2.2.1 0, 2501, .inl (fun _ => 0))), (q30, .inr (5, [.ref q31])), (q31, .inl (E.2.2.1 0, 24000, .inl (fun _ => 0))), (q32, .inr (5, [.ref q33])), (q33, .inl (E.2.2.1 0, 24000, .inl (fun _ => 0))), (q35, .inr (5, [.ref q36])), (q36, .inl (E.2.2.1 0, 1600, .inl (fun _ => 0))), (q38, .inr (5, [.ref q39])), (q39, .inl (E.2.2.1 0, 300, .inl (fun _ => 0))), (q41, .inr (5, [.ref q42])), (q42, .inl (E.2.2.1 0, 500, .inl (fun _ => 0)))]) rfl ?_
  refine zb_num (k' := 38) (n' := 90462) (by decide) (by decide) ?_
  refine zb_putF (q0 := 0) pf_X4_37 rfl (Nat.le_of_ble_eq_true rfl) dX4_init_65 ?_
  refine zb_eq (ws' := [(h0, .inr (4, [.null, .null, .null, .ref q1, .ref q13, .ref q35, .ref q38, .ref q41, .int 0, .int 0, .int 0, .int 0, .int 0, .int 0, .int 0, .int 0, .int 0])), (q1, .inr (0, [.ref q2, .ref q4, .ref q6, .ref q8, .ref q10, .int 0, .int 0, .int 0, .int 0, .int 0])), (q2, .inr (5, [.ref q3])), (q3, .inl (E.2.2.1 0, 10000, .inl (fun _ => 0))), (q4, .inr (5, [.ref q5])), (q5, .inl (E.2.2.1 0, 3336, .inl (fun _ => 0))), (q6, .inr (5, [.ref q7])), (q7, .inl (E.2.2.1 0, 3336, .inl (fun _ => 0))), (q8, .inr (5, [.ref q9])), (q9, .inl (E.2.2.1 0, 1668, .inl (fun _ => 0))), (q10, .inr (5, [.ref q11])), (q11, .inl (E.2.2.1 0, 1668, .inl (fun _ => 0))), (q13, .inr (8, [.ref q14, .ref q16, .ref q18, .ref q20, .ref q22, .ref q24, .ref q26, .ref q28, .ref q30, .ref q32, .int 0, .int 0, .int 0, .int 0, .int 0, .int 0, .int 0, .int 0])), (q14, .inr (5, [.ref q15])), (q15, .inl (E.2.2.1 0, 2501, .inl (fun _ => 0))), (q16, .inr (5, [.ref q17])), (q17, .inl (E.2.2.1 0, 2501, .inl (fun _ => 0))), (q18, .inr (5, [.ref q19])), (q19, .inl (E.2.2.1 0, 2501, .inl (fun _ => 0))), (q20, .inr (5, [.ref q21])), (q21, .inl (E.2.2.1 0, 2501, .inl (fun _ => 0))), (q22, .inr (5, [.ref q23])), (q23, .inl (E.2.2.1 0, 2501, .inl (fun _ => 0))), (q24, .inr (5, [.ref q25])), (q25, .inl (E.2.2.1 0, 2501, .inl (fun _ => 0))), (q26, .inr (5, [.ref q27])), (q27, .inl (E.2.2.1 0, 2501, .inl (fun _ => 0))), (q28, .inr (5, [.ref q29])), (q29, .inl (E.2.2.1 0, 2501, .inl (fun _ => 0))), (q30, .inr (5, [.ref q31])), (q31, .inl (E.2.2.1 0, 24000, .inl (fun _ => 0))), (q32, .inr (5, [.ref q33])), (q33, .inl (E.2.2.1 0, 24000, .inl (fun _ => 0))), (q35, .inr (5, [.ref q36])), (q36, .inl (E.2.2.1 0, 1600, .inl (fun _ => 0))), (q38, .inr (5, [.ref q39])), (q39, .inl (E.2.2.1 0, 300, .inl (fun _ => 0))), (q41, .inr (5, [.ref q42])), (q42, .inl (E.2.2.1 0, 500, .inl (fun _ => 0)))]) rfl ?_
  refine zb_num (k' := 38) (n' := 90462) (by decide) (by decide) ?_
  refine zb_aload_n 0 dX4_init_68 rfl rfl ?_
  refine zb_iconst (v := (-1)) dX4_init_69 (by decide) ?_
  refine zb_put (q0 := 0) pf_X4_40 rfl (Nat.le_of_ble_eq_true rfl) dX4_init_70 ?_
  refine zb_eq (ws' := [(h0, .inr (4, [.null, .null, .null, .ref q1, .ref q13, .ref q35, .ref q38, .ref q41, .int 0, .int 0, .int 0, .int 0, .int 0, .int 0, .int 0, .int 0, .int (-1)])), (q1, .inr (0, [.ref q2, .ref q4, .ref q6, .ref q8, .ref q10, .int 0, .int 0, .int 0, .int 0, .int 0])), (q2, .inr (5, [.ref q3])), (q3, .inl (E.2.2.1 0, 10000, .inl (fun _ => 0))), (q4, .inr (5, [.ref q5])), (q5, .inl (E.2.2.1 0, 3336, .inl (fun _ => 0))), (q6, .inr (5, [.ref q7])), (q7, .inl (E.2.2.1 0, 3336, .inl (fun _ => 0))), (q8, .inr (5, [.ref q9])), (q9, .inl (E.2.2.1 0, 1668, .inl (fun _ => 0))), (q10, .inr (5, [.ref q11])), (q11, .inl (E.2.2.1 0, 1668, .inl (fun _ => 0))), (q13, .inr (8, [.ref q14, .ref q16, .ref q18, .ref q20, .ref q22, .ref q24, .ref q26, .ref q28, .ref q30, .ref q32, .int 0, .int 0, .int 0, .int 0, .int 0, .int 0, .int 0, .int 0])), (q14, .inr (5, [.ref q15])), (q15, .inl (E.2.2.1 0, 2501, .inl (fun _ => 0))), (q16, .inr (5, [.ref q17])), (q17, .inl (E.2.2.1 0, 2501, .inl (fun _ => 0))), (q18, .inr (5, [.ref q19])), (q19, .inl (E.2.2.1 0, 2501, .inl (fun _ => 0))), (q20, .inr (5, [.ref q21])), (q21, .inl (E.2.2.1 0, 2501, .inl (fun _ => 0))), (q22, .inr (5, [.ref q23])), (q23, .inl (E.2.2.1 0, 2501, .inl (fun _ => 0))), (q24, .inr (5, [.ref q25])), (q25, .inl (E.2.2.1 0, 2501, .inl (fun _ => 0))), (q26, .inr (5, [.ref q27])), (q27, .inl (E.2.2.1 0, 2501, .inl (fun _ => 0))), (q28, .inr (5, [.ref q29])), (q29, .inl (E.2.2.1 0, 2501, .inl (fun _ => 0))), (q30, .inr (5, [.ref q31])), (q31, .inl (E.2.2.1 0, 24000, .inl (fun _ => 0))), (q32, .inr (5, [.ref q33])), (q33, .inl (E.2.2.1 0, 24000, .inl (fun _ => 0))), (q35, .inr (5, [.ref q36])), (q36, .inl (E.2.2.1 0, 1600, .inl (fun _ => 0))), (q38, .inr (5, [.ref q39])), (q39, .inl (E.2.2.1 0, 300, .inl (fun _ => 0))), (q41, .inr (5, [.ref q42])), (q42, .inl (E.2.2.1 0, 500, .inl (fun _ => 0)))]) rfl ?_
  refine zb_num (k' := 38) (n' := 90462) (by decide) (by decide) ?_
  refine zb_aload_n 0 dX4_init_73 rfl rfl ?_
  refine zb_aload_n 1 dX4_init_74 rfl rfl ?_
  refine zb_putF (q0 := 0) pf_X4_44 rfl (Nat.le_of_ble_eq_true rfl) dX4_init_75 ?_
  refine zb_eq (ws' := [(h0, .inr (4, [.ref a1, .null, .null, .ref q1, .ref q13, .ref q35, .ref q38, .ref q41, .int 0, .int 0, .int 0, .int 0, .int 0, .int 0, .int 0, .int 0, .int (-1)])), (q1, .inr (0, [.ref q2, .ref q4, .ref q6, .ref q8, .ref q10, .int 0, .int 0, .int 0, .int 0, .int 0])), (q2, .inr (5, [.ref q3])), (q3, .inl (E.2.2.1 0, 10000, .inl (fun _ => 0))), (q4, .inr (5, [.ref q5])), (q5, .inl (E.2.2.1 0, 3336, .inl (fun _ => 0))), (q6, .inr (5, [.ref q7])), (q7, .inl (E.2.2.1 0, 3336, .inl (fun _ => 0))), (q8, .inr (5, [.ref q9])), (q9, .inl (E.2.2.1 0, 1668, .inl (fun _ => 0))), (q10, .inr (5, [.ref q11])), (q11, .inl (E.2.2.1 0, 1668, .inl (fun _ => 0))), (q13, .inr (8, [.ref q14, .ref q16, .ref q18, .ref q20, .ref q22, .ref q24, .ref q26, .ref q28, .ref q30, .ref q32, .int 0, .int 0, .int 0, .int 0, .int 0, .int 0, .int 0, .int 0])), (q14, .inr (5, [.ref q15])), (q15, .inl (E.2.2.1 0, 2501, .inl (fun _ => 0))), (q16, .inr (5, [.ref q17])), (q17, .inl (E.2.2.1 0, 2501, .inl (fun _ => 0))), (q18, .inr (5, [.ref q19])), (q19, .inl (E.2.2.1 0, 2501, .inl (fun _ => 0))), (q20, .inr (5, [.ref q21])), (q21, .inl (E.2.2.1 0, 2501, .inl (fun _ => 0))), (q22, .inr (5, [.ref q23])), (q23, .inl (E.2.2.1 0, 2501, .inl (fun _ => 0))), (q24, .inr (5, [.ref q25])), (q25, .inl (E.2.2.1 0, 2501, .inl (fun _ => 0))), (q26, .inr (5, [.ref q27])), (q27, .inl (E.2.2.1 0, 2501, .inl (fun _ => 0))), (q28, .inr (5, [.ref q29])), (q29, .inl (E.2.2.1 0, 2501, .inl (fun _ => 0))), (q30, .inr (5, [.ref q31])), (q31, .inl (E.2.2.1 0, 24000, .inl (fun _ => 0))), (q32, .inr (5, [.ref q33])), (q33, .inl (E.2.2.1 0, 24000, .inl (fun _ => 0))), (q35, .inr (5, [.ref q36])), (q36, .inl (E.2.2.1 0, 1600, .inl (fun _ => 0))), (q38, .inr (5, [.ref q39])), (q39, .inl (E.2.2.1 0, 300, .inl (fun _ => 0))), (q41, .inr (5, [.ref q42])), (q42, .inl (E.2.2.1 0, 500, .inl (fun _ => 0)))]) rfl ?_
  refine zb_num (k' := 38) (n' := 90462) (by decide) (by decide) ?_
  refine zb_aload_n 0 dX4_init_78 rfl rfl ?_
  refine zb_aload_n 2 dX4_init_79 rfl rfl ?_
  refine zb_putF (q0 := 0) pf_X4_48 rfl (Nat.le_of_ble_eq_true rfl) dX4_init_80 ?_
  refine zb_eq (ws' := [(h0, .inr (4, [.ref a1, .ref a2, .null, .ref q1, .ref q13, .ref q35, .ref q38, .ref q41, .int 0, .int 0, .int 0, .int 0, .int 0, .int 0, .int 0, .int 0, .int (-1)])), (q1, .inr (0, [.ref q2, .ref q4, .ref q6, .ref q8, .ref q10, .int 0, .int 0, .int 0, .int 0, .int 0])), (q2, .inr (5, [.ref q3])), (q3, .inl (E.2.2.1 0, 10000, .inl (fun _ => 0))), (q4, .inr (5, [.ref q5])), (q5, .inl (E.2.2.1 0, 3336, .inl (fun _ => 0))), (q6, .inr (5, [.ref q7])), (q7, .inl (E.2.2.1 0, 3336, .inl (fun _ => 0))), (q8, .inr (5, [.ref q9])), (q9, .inl (E.2.2.1 0, 1668, .inl (fun _ => 0))), (q10, .inr (5, [.ref q11])), (q11, .inl (E.2.2.1 0, 1668, .inl (fun _ => 0))), (q13, .inr (8, [.ref q14, .ref q16, .ref q18, .ref q20, .ref q22, .ref q24, .ref q26, .ref q28, .ref q30, .ref q32, .int 0, .int 0, .int 0, .int 0, .int 0, .int 0, .int 0, .int 0])), (q14, .inr (5, [.ref q15])), (q15, .inl (E.2.2.1 0, 2501, .inl (fun _ => 0))), (q16, .inr (5, [.ref q17])), (q17, .inl (E.2.2.1 0, 2501, .inl (fun _ => 0))), (q18, .inr (5, [.ref q19])), (q19, .inl (E.2.2.1 0, 2501, .inl (fun _ => 0))), (q20, .inr (5, [.ref q21])), (q21, .inl (E.2.2.1 0, 2501, .inl (fun _ => 0))), (q22, .inr (5, [.ref q23])), (q23, .inl (E.2.2.1 0, 2501, .inl (fun _ => 0))), (q24, .inr (5, [.ref q25])), (q25, .inl (E.2.2.1 0, 2501, .inl (fun _ => 0))), (q26, .inr (5, [.ref q27])), (q27, .inl (E.2.2.1 0, 2501, .inl (fun _ => 0))), (q28, .inr (5, [.ref q29])), (q29, .inl (E.2.2.1 0, 2501, .inl (fun _ => 0))), (q30, .inr (5, [.ref q31])), (q31, .inl (E.2.2.1 0, 24000, .inl (fun _ => 0))), (q32, .inr (5, [.ref q33])), (q33, .inl (E.2.2.1 0, 24000, .inl (fun _ => 0))), (q35, .inr (5, [.ref q36])), (q36, .inl (E.2.2.1 0, 1600, .inl (fun _ => 0))), (q38, .inr (5, [.ref q39])), (q39, .inl (E.2.2.1 0, 300, .inl (fun _ => 0))), (q41, .inr (5, [.ref q42])), (q42, .inl (E.2.2.1 0, 500, .inl (fun _ => 0)))]) rfl ?_
  refine zb_num (k' := 38) (n' := 90462) (by decide) (by decide) ?_
  refine zb_aload_n 0 dX4_init_83 rfl rfl ?_
  refine zb_aload_n 3 dX4_init_84 rfl rfl ?_
  refine zb_putF (q0 := 0) pf_X4_52 rfl (Nat.le_of_ble_eq_true rfl) dX4_init_85 ?_
  refine zb_eq (ws' := [(h0, .inr (4, [.ref a1, .ref a2, .ref a3, .ref q1, .ref q13, .ref q35, .ref q38, .ref q41, .int 0, .int 0, .int 0, .int 0, .int 0, .int 0, .int 0, .int 0, .int (-1)])), (q1, .inr (0, [.ref q2, .ref q4, .ref q6, .ref q8, .ref q10, .int 0, .int 0, .int 0, .int 0, .int 0])), (q2, .inr (5, [.ref q3])), (q3, .inl (E.2.2.1 0, 10000, .inl (fun _ => 0))), (q4, .inr (5, [.ref q5])), (q5, .inl (E.2.2.1 0, 3336, .inl (fun _ => 0))), (q6, .inr (5, [.ref q7])), (q7, .inl (E.2.2.1 0, 3336, .inl (fun _ => 0))), (q8, .inr (5, [.ref q9])), (q9, .inl (E.2.2.1 0, 1668, .inl (fun _ => 0))), (q10, .inr (5, [.ref q11])), (q11, .inl (E.2.2.1 0, 1668, .inl (fun _ => 0))), (q13, .inr (8, [.ref q14, .ref q16, .ref q18, .ref q20, .ref q22, .ref q24, .ref q26, .ref q28, .ref q30, .ref q32, .int 0, .int 0, .int 0, .int 0, .int 0, .int 0, .int 0, .int 0])), (q14, .inr (5, [.ref q15])), (q15, .inl (E.2.2.1 0, 2501, .inl (fun _ => 0))), (q16, .inr (5, [.ref q17])), (q17, .inl (E.2.2.1 0, 2501, .inl (fun _ => 0))), (q18, .inr (5, [.ref q19])), (q19, .inl (E.2.2.1 0, 2501, .inl (fun _ => 0))), (q20, .inr (5, [.ref q21])), (q21, .inl (E.2.2.1 0, 2501, .inl (fun _ => 0))), (q22, .inr (5, [.ref q23])), (q23, .inl (E.2.2.1 0, 2501, .inl (fun _ => 0))), (q24, .inr (5, [.ref q25])), (q25, .inl (E.2.2.1 0, 2501, .inl (fun _ => 0))), (q26, .inr (5, [.ref q27])), (q27, .inl (E.2.2.1 0, 2501, .inl (fun _ => 0))), (q28, .inr (5, [.ref q29])), (q29, .inl (E.2.2.1 0, 2501, .inl (fun _ => 0))), (q30, .inr (5, [.ref q31])), (q31, .inl (E.2.2.1 0, 24000, .inl (fun _ => 0))), (q32, .inr (5, [.ref q33])), (q33, .inl (E.2.2.1 0, 24000, .inl (fun _ => 0))), (q35, .inr (5, [.ref q36])), (q36, .inl (E.2.2.1 0, 1600, .inl (fun _ => 0))), (q38, .inr (5, [.ref q39])), (q39, .inl (E.2.2.1 0, 300, .inl (fun _ => 0))), (q41, .inr (5, [.ref q42])), (q42, .inl (E.2.2.1 0, 500, .inl (fun _ => 0)))]) rfl ?_
  refine zb_num (k' := 38) (n' := 90462) (by decide) (by decide) ?_
  exact zb_vret ⟨q1, q2, q3, q4, q5, q6, q7, q8, q9, q10, q11, q13, q14, q15, q16, q17, q18, q19, q20, q21, q22, q23, q24, q25, q26, q27, q28, q29, q30, q31, q32, q33, q35, q36, q38, q39, q41, q42, rfl⟩ (by omega) (by omega) dX4_init_88
