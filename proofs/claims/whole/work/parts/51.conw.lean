set_option maxRecDepth 20000 in
theorem oi1 : Cond.instanceMethod Lib.objectInit ∈ zGT := (zGT_in zch1 27 rfl rfl)
set_option maxRecDepth 20000 in
theorem oi2 : Cond.code Lib.objectInit ⟨#[0xb1]⟩ 1 none ∈ zGT := (zGT_in zch1 28 rfl rfl)
set_option maxRecDepth 20000 in
theorem aci : Cond.arrayClass (newarray.typeOf .int) ∈ zGT := (zGT_in zch1 42 rfl rfl)
set_option maxRecDepth 20000 in
theorem acz : Cond.arrayClass (newarray.typeOf .boolean) ∈ zGT := (zGT_in zch8 44 rfl rfl)
set_option maxRecDepth 20000 in
theorem yy_X5_init : zY yX5_init cX5_init 2 none 1 := ⟨(zGT_in zch1 33 rfl rfl), (zGT_in zch1 2 rfl rfl), by decide +kernel, by decide +kernel, by decide +kernel, by decide⟩
set_option maxRecDepth 20000 in
theorem yi_X5_init : Cond.instanceMethod yX5_init ∈ zGT := (zGT_in zch1 32 rfl rfl)
set_option maxRecDepth 20000 in
theorem lo_X5_1 : Cond.methodLink RX5 1 Lib.objectInit ∈ zGT := (zGT_in zch1 34 rfl rfl)
set_option maxRecDepth 20000 in
theorem pf_X5_13 {q : Nat} : zPf RX5 13 5 0 true (.ref q) := ⟨_, tyX5, (.array .int), rfl, u_RX5, tyX5_ok, nmX5, by decide, (zGT_in zch1 38 rfl rfl), rfl, rfl, by decide +kernel, rfl, rfl⟩
set_option maxRecDepth 20000 in
theorem yy_X0_init : zY yX0_init cX0_init 1 none 0 := ⟨(zGT_in zch2 172 rfl rfl), (zGT_in zch1 12 rfl rfl), by decide +kernel, by decide +kernel, by decide +kernel, by decide⟩
set_option maxRecDepth 20000 in
theorem yi_X0_init : Cond.instanceMethod yX0_init ∈ zGT := (zGT_in zch2 171 rfl rfl)
set_option maxRecDepth 20000 in
theorem lo_X0_3 : Cond.methodLink RX0 3 Lib.objectInit ∈ zGT := (zGT_in zch2 173 rfl rfl)
set_option maxRecDepth 20000 in
theorem mk_X0_9 : zMk RX0 9 5 [.null] 1 := ⟨_, tyX5, rfl, rfl, u_RX5, tyX5_ok, (zGT_in zch2 174 rfl rfl), (zGT_in zch1 30 rfl rfl), (zGT_in zch1 2 rfl rfl), by decide +kernel⟩
set_option maxRecDepth 20000 in
theorem li_X0_11 : zLi RX0 11 yX5_init := Or.inl (zGT_in zch2 175 rfl rfl)
set_option maxRecDepth 20000 in
theorem pf_X0_14 {q : Nat} : zPf RX0 14 0 0 true (.ref q) := ⟨_, tyX0, (.object "SessionHouse$Ints"), rfl, u_RX0, tyX0_ok, nmX0, by decide, (zGT_in zch2 176 rfl rfl), rfl, rfl, by decide +kernel, rfl, rfl⟩
set_option maxRecDepth 20000 in
theorem pf_X0_20 {q : Nat} : zPf RX0 20 0 1 true (.ref q) := ⟨_, tyX0, (.object "SessionHouse$Ints"), rfl, u_RX0, tyX0_ok, nmX0, by decide, (zGT_in zch2 177 rfl rfl), rfl, rfl, by decide +kernel, rfl, rfl⟩
set_option maxRecDepth 20000 in
theorem pf_X0_23 {q : Nat} : zPf RX0 23 0 2 true (.ref q) := ⟨_, tyX0, (.object "SessionHouse$Ints"), rfl, u_RX0, tyX0_ok, nmX0, by decide, (zGT_in zch2 178 rfl rfl), rfl, rfl, by decide +kernel, rfl, rfl⟩
set_option maxRecDepth 20000 in
theorem pf_X0_26 {q : Nat} : zPf RX0 26 0 3 true (.ref q) := ⟨_, tyX0, (.object "SessionHouse$Ints"), rfl, u_RX0, tyX0_ok, nmX0, by decide, (zGT_in zch2 179 rfl rfl), rfl, rfl, by decide +kernel, rfl, rfl⟩
set_option maxRecDepth 20000 in
theorem pf_X0_29 {q : Nat} : zPf RX0 29 0 4 true (.ref q) := ⟨_, tyX0, (.object "SessionHouse$Ints"), rfl, u_RX0, tyX0_ok, nmX0, by decide, (zGT_in zch2 180 rfl rfl), rfl, rfl, by decide +kernel, rfl, rfl⟩
set_option maxRecDepth 20000 in
theorem yy_X1_init : zY yX1_init cX1_init 5 none 4 := ⟨(zGT_in zch2 135 rfl rfl), (zGT_in zch1 10 rfl rfl), by decide +kernel, by decide +kernel, by decide +kernel, by decide⟩
set_option maxRecDepth 20000 in
theorem yi_X1_init : Cond.instanceMethod yX1_init ∈ zGT := (zGT_in zch2 134 rfl rfl)
set_option maxRecDepth 20000 in
theorem lo_X1_3 : Cond.methodLink RX1 3 Lib.objectInit ∈ zGT := (zGT_in zch2 136 rfl rfl)
set_option maxRecDepth 20000 in
theorem mk_X1_9 : zMk RX1 9 5 [.null] 1 := ⟨_, tyX5, rfl, rfl, u_RX5, tyX5_ok, (zGT_in zch2 137 rfl rfl), (zGT_in zch1 30 rfl rfl), (zGT_in zch1 2 rfl rfl), by decide +kernel⟩
set_option maxRecDepth 20000 in
theorem kc_RX1_11 : Cond.constant RX1 11 80000 ∈ zGT := (zGT_in zch2 138 rfl rfl)
set_option maxRecDepth 20000 in
theorem li_X1_12 : zLi RX1 12 yX5_init := Or.inl (zGT_in zch2 139 rfl rfl)
set_option maxRecDepth 20000 in
theorem pf_X1_15 {q : Nat} : zPf RX1 15 1 4 true (.ref q) := ⟨_, tyX1, (.object "SessionHouse$Ints"), rfl, u_RX1, tyX1_ok, nmX1, by decide, (zGT_in zch2 144 rfl rfl), rfl, rfl, by decide +kernel, rfl, rfl⟩
set_option maxRecDepth 20000 in
theorem pf_X1_21 {q : Nat} : zPf RX1 21 1 0 true (.ref q) := ⟨_, tyX1, (.object "SessionHouse$Forms"), rfl, u_RX1, tyX1_ok, nmX1, by decide, (zGT_in zch2 140 rfl rfl), rfl, rfl, by decide +kernel, rfl, rfl⟩
set_option maxRecDepth 20000 in
theorem pf_X1_25 {q : Nat} : zPf RX1 25 1 1 true (.ref q) := ⟨_, tyX1, (.object "SessionHouse$Formulas"), rfl, u_RX1, tyX1_ok, nmX1, by decide, (zGT_in zch2 141 rfl rfl), rfl, rfl, by decide +kernel, rfl, rfl⟩
set_option maxRecDepth 20000 in
theorem pf_X1_29 {q : Nat} : zPf RX1 29 1 2 true (.ref q) := ⟨_, tyX1, (.object "SessionHouse$Statements"), rfl, u_RX1, tyX1_ok, nmX1, by decide, (zGT_in zch2 142 rfl rfl), rfl, rfl, by decide +kernel, rfl, rfl⟩
set_option maxRecDepth 20000 in
theorem pf_X1_33 {q : Nat} : zPf RX1 33 1 3 true (.ref q) := ⟨_, tyX1, (.object "SessionHouse$Procs"), rfl, u_RX1, tyX1_ok, nmX1, by decide, (zGT_in zch2 143 rfl rfl), rfl, rfl, by decide +kernel, rfl, rfl⟩
set_option maxRecDepth 20000 in
theorem yy_X2_init : zY yX2_init cX2_init 1 none 0 := ⟨(zGT_in zch1 47 rfl rfl), (zGT_in zch1 4 rfl rfl), by decide +kernel, by decide +kernel, by decide +kernel, by decide⟩
set_option maxRecDepth 20000 in
theorem yi_X2_init : Cond.instanceMethod yX2_init ∈ zGT := (zGT_in zch1 46 rfl rfl)
set_option maxRecDepth 20000 in
theorem lo_X2_3 : Cond.methodLink RX2 3 Lib.objectInit ∈ zGT := (zGT_in zch1 48 rfl rfl)
set_option maxRecDepth 20000 in
theorem mk_X2_9 : zMk RX2 9 5 [.null] 1 := ⟨_, tyX5, rfl, rfl, u_RX5, tyX5_ok, (zGT_in zch1 49 rfl rfl), (zGT_in zch1 30 rfl rfl), (zGT_in zch1 2 rfl rfl), by decide +kernel⟩
set_option maxRecDepth 20000 in
theorem li_X2_11 : zLi RX2 11 yX5_init := Or.inl (zGT_in zch1 50 rfl rfl)
set_option maxRecDepth 20000 in
theorem pf_X2_14 {q : Nat} : zPf RX2 14 2 0 true (.ref q) := ⟨_, tyX2, (.object "SessionHouse$Ints"), rfl, u_RX2, tyX2_ok, nmX2, by decide, (zGT_in zch1 51 rfl rfl), rfl, rfl, by decide +kernel, rfl, rfl⟩
set_option maxRecDepth 20000 in
theorem pf_X2_20 {q : Nat} : zPf RX2 20 2 1 true (.ref q) := ⟨_, tyX2, (.object "SessionHouse$Ints"), rfl, u_RX2, tyX2_ok, nmX2, by decide, (zGT_in zch1 52 rfl rfl), rfl, rfl, by decide +kernel, rfl, rfl⟩
set_option maxRecDepth 20000 in
theorem pf_X2_23 {q : Nat} : zPf RX2 23 2 2 true (.ref q) := ⟨_, tyX2, (.object "SessionHouse$Ints"), rfl, u_RX2, tyX2_ok, nmX2, by decide, (zGT_in zch1 53 rfl rfl), rfl, rfl, by decide +kernel, rfl, rfl⟩
set_option maxRecDepth 20000 in
theorem pf_X2_26 {q : Nat} : zPf RX2 26 2 3 true (.ref q) := ⟨_, tyX2, (.object "SessionHouse$Ints"), rfl, u_RX2, tyX2_ok, nmX2, by decide, (zGT_in zch1 54 rfl rfl), rfl, rfl, by decide +kernel, rfl, rfl⟩
set_option maxRecDepth 20000 in
theorem pf_X2_29 {q : Nat} : zPf RX2 29 2 4 true (.ref q) := ⟨_, tyX2, (.object "SessionHouse$Ints"), rfl, u_RX2, tyX2_ok, nmX2, by decide, (zGT_in zch1 55 rfl rfl), rfl, rfl, by decide +kernel, rfl, rfl⟩
set_option maxRecDepth 20000 in
theorem pf_X2_32 {q : Nat} : zPf RX2 32 2 5 true (.ref q) := ⟨_, tyX2, (.object "SessionHouse$Ints"), rfl, u_RX2, tyX2_ok, nmX2, by decide, (zGT_in zch1 56 rfl rfl), rfl, rfl, by decide +kernel, rfl, rfl⟩
set_option maxRecDepth 20000 in
theorem pf_X2_35 {q : Nat} : zPf RX2 35 2 6 true (.ref q) := ⟨_, tyX2, (.object "SessionHouse$Ints"), rfl, u_RX2, tyX2_ok, nmX2, by decide, (zGT_in zch1 57 rfl rfl), rfl, rfl, by decide +kernel, rfl, rfl⟩
set_option maxRecDepth 20000 in
theorem pf_X2_38 {q : Nat} : zPf RX2 38 2 7 true (.ref q) := ⟨_, tyX2, (.object "SessionHouse$Ints"), rfl, u_RX2, tyX2_ok, nmX2, by decide, (zGT_in zch1 58 rfl rfl), rfl, rfl, by decide +kernel, rfl, rfl⟩
set_option maxRecDepth 20000 in
theorem pf_X2_41 {q : Nat} : zPf RX2 41 2 8 true (.ref q) := ⟨_, tyX2, (.object "SessionHouse$Ints"), rfl, u_RX2, tyX2_ok, nmX2, by decide, (zGT_in zch1 59 rfl rfl), rfl, rfl, by decide +kernel, rfl, rfl⟩
set_option maxRecDepth 20000 in
theorem pf_X2_44 {q : Nat} : zPf RX2 44 2 9 true (.ref q) := ⟨_, tyX2, (.object "SessionHouse$Ints"), rfl, u_RX2, tyX2_ok, nmX2, by decide, (zGT_in zch1 60 rfl rfl), rfl, rfl, by decide +kernel, rfl, rfl⟩
set_option maxRecDepth 20000 in
theorem pf_X2_47 {q : Nat} : zPf RX2 47 2 10 true (.ref q) := ⟨_, tyX2, (.object "SessionHouse$Ints"), rfl, u_RX2, tyX2_ok, nmX2, by decide, (zGT_in zch1 62 rfl rfl), rfl, rfl, by decide +kernel, rfl, rfl⟩
set_option maxRecDepth 20000 in
theorem pf_X2_50 {q : Nat} : zPf RX2 50 2 11 true (.ref q) := ⟨_, tyX2, (.object "SessionHouse$Ints"), rfl, u_RX2, tyX2_ok, nmX2, by decide, (zGT_in zch1 63 rfl rfl), rfl, rfl, by decide +kernel, rfl, rfl⟩
set_option maxRecDepth 20000 in
theorem yy_X3_init : zY yX3_init cX3_init 1 none 0 := ⟨(zGT_in zch1 106 rfl rfl), (zGT_in zch1 5 rfl rfl), by decide +kernel, by decide +kernel, by decide +kernel, by decide⟩
set_option maxRecDepth 20000 in
theorem yi_X3_init : Cond.instanceMethod yX3_init ∈ zGT := (zGT_in zch1 105 rfl rfl)
set_option maxRecDepth 20000 in
theorem lo_X3_3 : Cond.methodLink RX3 3 Lib.objectInit ∈ zGT := (zGT_in zch1 107 rfl rfl)
set_option maxRecDepth 20000 in
theorem mk_X3_9 : zMk RX3 9 5 [.null] 1 := ⟨_, tyX5, rfl, rfl, u_RX5, tyX5_ok, (zGT_in zch1 108 rfl rfl), (zGT_in zch1 30 rfl rfl), (zGT_in zch1 2 rfl rfl), by decide +kernel⟩
set_option maxRecDepth 20000 in
theorem li_X3_11 : zLi RX3 11 yX5_init := Or.inl (zGT_in zch1 109 rfl rfl)
set_option maxRecDepth 20000 in
theorem pf_X3_14 {q : Nat} : zPf RX3 14 3 0 true (.ref q) := ⟨_, tyX3, (.object "SessionHouse$Ints"), rfl, u_RX3, tyX3_ok, nmX3, by decide, (zGT_in zch1 110 rfl rfl), rfl, rfl, by decide +kernel, rfl, rfl⟩
set_option maxRecDepth 20000 in
theorem pf_X3_20 {q : Nat} : zPf RX3 20 3 1 true (.ref q) := ⟨_, tyX3, (.object "SessionHouse$Ints"), rfl, u_RX3, tyX3_ok, nmX3, by decide, (zGT_in zch1 111 rfl rfl), rfl, rfl, by decide +kernel, rfl, rfl⟩
set_option maxRecDepth 20000 in
theorem pf_X3_23 {q : Nat} : zPf RX3 23 3 2 true (.ref q) := ⟨_, tyX3, (.object "SessionHouse$Ints"), rfl, u_RX3, tyX3_ok, nmX3, by decide, (zGT_in zch1 112 rfl rfl), rfl, rfl, by decide +kernel, rfl, rfl⟩
set_option maxRecDepth 20000 in
theorem pf_X3_26 {q : Nat} : zPf RX3 26 3 3 true (.ref q) := ⟨_, tyX3, (.object "SessionHouse$Ints"), rfl, u_RX3, tyX3_ok, nmX3, by decide, (zGT_in zch1 115 rfl rfl), rfl, rfl, by decide +kernel, rfl, rfl⟩
set_option maxRecDepth 20000 in
theorem pf_X3_29 {q : Nat} : zPf RX3 29 3 4 true (.ref q) := ⟨_, tyX3, (.object "SessionHouse$Ints"), rfl, u_RX3, tyX3_ok, nmX3, by decide, (zGT_in zch1 118 rfl rfl), rfl, rfl, by decide +kernel, rfl, rfl⟩
set_option maxRecDepth 20000 in
theorem pf_X3_32 {q : Nat} : zPf RX3 32 3 5 true (.ref q) := ⟨_, tyX3, (.object "SessionHouse$Ints"), rfl, u_RX3, tyX3_ok, nmX3, by decide, (zGT_in zch1 121 rfl rfl), rfl, rfl, by decide +kernel, rfl, rfl⟩
set_option maxRecDepth 20000 in
theorem yy_X6_init : zY yX6_init cX6_init 1 none 0 := ⟨(zGT_in zch1 239 rfl rfl), (zGT_in zch1 7 rfl rfl), by decide +kernel, by decide +kernel, by decide +kernel, by decide⟩
set_option maxRecDepth 20000 in
theorem yi_X6_init : Cond.instanceMethod yX6_init ∈ zGT := (zGT_in zch1 238 rfl rfl)
set_option maxRecDepth 20000 in
theorem lo_X6_3 : Cond.methodLink RX6 3 Lib.objectInit ∈ zGT := (zGT_in zch2 0 rfl rfl)
set_option maxRecDepth 20000 in
theorem mk_X6_9 : zMk RX6 9 5 [.null] 1 := ⟨_, tyX5, rfl, rfl, u_RX5, tyX5_ok, (zGT_in zch2 1 rfl rfl), (zGT_in zch1 30 rfl rfl), (zGT_in zch1 2 rfl rfl), by decide +kernel⟩
set_option maxRecDepth 20000 in
theorem li_X6_11 : zLi RX6 11 yX5_init := Or.inl (zGT_in zch2 2 rfl rfl)
set_option maxRecDepth 20000 in
theorem pf_X6_14 {q : Nat} : zPf RX6 14 6 0 true (.ref q) := ⟨_, tyX6, (.object "SessionHouse$Ints"), rfl, u_RX6, tyX6_ok, nmX6, by decide, (zGT_in zch2 3 rfl rfl), rfl, rfl, by decide +kernel, rfl, rfl⟩
set_option maxRecDepth 20000 in
theorem pf_X6_20 {q : Nat} : zPf RX6 20 6 1 true (.ref q) := ⟨_, tyX6, (.object "SessionHouse$Ints"), rfl, u_RX6, tyX6_ok, nmX6, by decide, (zGT_in zch2 4 rfl rfl), rfl, rfl, by decide +kernel, rfl, rfl⟩
set_option maxRecDepth 20000 in
theorem pf_X6_23 {q : Nat} : zPf RX6 23 6 2 true (.ref q) := ⟨_, tyX6, (.object "SessionHouse$Ints"), rfl, u_RX6, tyX6_ok, nmX6, by decide, (zGT_in zch2 5 rfl rfl), rfl, rfl, by decide +kernel, rfl, rfl⟩
set_option maxRecDepth 20000 in
theorem pf_X6_26 {q : Nat} : zPf RX6 26 6 3 true (.ref q) := ⟨_, tyX6, (.object "SessionHouse$Ints"), rfl, u_RX6, tyX6_ok, nmX6, by decide, (zGT_in zch2 9 rfl rfl), rfl, rfl, by decide +kernel, rfl, rfl⟩
set_option maxRecDepth 20000 in
theorem pf_X6_29 {q : Nat} : zPf RX6 29 6 4 true (.ref q) := ⟨_, tyX6, (.object "SessionHouse$Ints"), rfl, u_RX6, tyX6_ok, nmX6, by decide, (zGT_in zch2 12 rfl rfl), rfl, rfl, by decide +kernel, rfl, rfl⟩
set_option maxRecDepth 20000 in
theorem pf_X6_32 {q : Nat} : zPf RX6 32 6 5 true (.ref q) := ⟨_, tyX6, (.object "SessionHouse$Ints"), rfl, u_RX6, tyX6_ok, nmX6, by decide, (zGT_in zch2 15 rfl rfl), rfl, rfl, by decide +kernel, rfl, rfl⟩
set_option maxRecDepth 20000 in
theorem pf_X6_35 {q : Nat} : zPf RX6 35 6 6 true (.ref q) := ⟨_, tyX6, (.object "SessionHouse$Ints"), rfl, u_RX6, tyX6_ok, nmX6, by decide, (zGT_in zch2 17 rfl rfl), rfl, rfl, by decide +kernel, rfl, rfl⟩
set_option maxRecDepth 20000 in
theorem pf_X6_38 {q : Nat} : zPf RX6 38 6 7 true (.ref q) := ⟨_, tyX6, (.object "SessionHouse$Ints"), rfl, u_RX6, tyX6_ok, nmX6, by decide, (zGT_in zch2 18 rfl rfl), rfl, rfl, by decide +kernel, rfl, rfl⟩
set_option maxRecDepth 20000 in
theorem pf_X6_41 {q : Nat} : zPf RX6 41 6 8 true (.ref q) := ⟨_, tyX6, (.object "SessionHouse$Ints"), rfl, u_RX6, tyX6_ok, nmX6, by decide, (zGT_in zch2 19 rfl rfl), rfl, rfl, by decide +kernel, rfl, rfl⟩
set_option maxRecDepth 20000 in
theorem yy_X8_init : zY yX8_init cX8_init 1 none 0 := ⟨(zGT_in zch2 213 rfl rfl), (zGT_in zch1 13 rfl rfl), by decide +kernel, by decide +kernel, by decide +kernel, by decide⟩
set_option maxRecDepth 20000 in
theorem yi_X8_init : Cond.instanceMethod yX8_init ∈ zGT := (zGT_in zch2 212 rfl rfl)
set_option maxRecDepth 20000 in
theorem lo_X8_3 : Cond.methodLink RX8 3 Lib.objectInit ∈ zGT := (zGT_in zch2 214 rfl rfl)
set_option maxRecDepth 20000 in
theorem mk_X8_9 : zMk RX8 9 5 [.null] 1 := ⟨_, tyX5, rfl, rfl, u_RX5, tyX5_ok, (zGT_in zch2 215 rfl rfl), (zGT_in zch1 30 rfl rfl), (zGT_in zch1 2 rfl rfl), by decide +kernel⟩
set_option maxRecDepth 20000 in
theorem li_X8_11 : zLi RX8 11 yX5_init := Or.inl (zGT_in zch2 216 rfl rfl)
set_option maxRecDepth 20000 in
theorem pf_X8_14 {q : Nat} : zPf RX8 14 8 0 true (.ref q) := ⟨_, tyX8, (.object "SessionHouse$Ints"), rfl, u_RX8, tyX8_ok, nmX8, by decide, (zGT_in zch2 217 rfl rfl), rfl, rfl, by decide +kernel, rfl, rfl⟩
set_option maxRecDepth 20000 in
theorem pf_X8_20 {q : Nat} : zPf RX8 20 8 1 true (.ref q) := ⟨_, tyX8, (.object "SessionHouse$Ints"), rfl, u_RX8, tyX8_ok, nmX8, by decide, (zGT_in zch2 219 rfl rfl), rfl, rfl, by decide +kernel, rfl, rfl⟩
set_option maxRecDepth 20000 in
theorem pf_X8_23 {q : Nat} : zPf RX8 23 8 2 true (.ref q) := ⟨_, tyX8, (.object "SessionHouse$Ints"), rfl, u_RX8, tyX8_ok, nmX8, by decide, (zGT_in zch2 221 rfl rfl), rfl, rfl, by decide +kernel, rfl, rfl⟩
set_option maxRecDepth 20000 in
theorem pf_X8_26 {q : Nat} : zPf RX8 26 8 3 true (.ref q) := ⟨_, tyX8, (.object "SessionHouse$Ints"), rfl, u_RX8, tyX8_ok, nmX8, by decide, (zGT_in zch2 223 rfl rfl), rfl, rfl, by decide +kernel, rfl, rfl⟩
set_option maxRecDepth 20000 in
theorem pf_X8_29 {q : Nat} : zPf RX8 29 8 4 true (.ref q) := ⟨_, tyX8, (.object "SessionHouse$Ints"), rfl, u_RX8, tyX8_ok, nmX8, by decide, (zGT_in zch2 225 rfl rfl), rfl, rfl, by decide +kernel, rfl, rfl⟩
set_option maxRecDepth 20000 in
theorem pf_X8_32 {q : Nat} : zPf RX8 32 8 5 true (.ref q) := ⟨_, tyX8, (.object "SessionHouse$Ints"), rfl, u_RX8, tyX8_ok, nmX8, by decide, (zGT_in zch2 227 rfl rfl), rfl, rfl, by decide +kernel, rfl, rfl⟩
set_option maxRecDepth 20000 in
theorem pf_X8_35 {q : Nat} : zPf RX8 35 8 6 true (.ref q) := ⟨_, tyX8, (.object "SessionHouse$Ints"), rfl, u_RX8, tyX8_ok, nmX8, by decide, (zGT_in zch2 228 rfl rfl), rfl, rfl, by decide +kernel, rfl, rfl⟩
set_option maxRecDepth 20000 in
theorem pf_X8_38 {q : Nat} : zPf RX8 38 8 7 true (.ref q) := ⟨_, tyX8, (.object "SessionHouse$Ints"), rfl, u_RX8, tyX8_ok, nmX8, by decide, (zGT_in zch2 229 rfl rfl), rfl, rfl, by decide +kernel, rfl, rfl⟩
set_option maxRecDepth 20000 in
theorem pf_X8_41 {q : Nat} : zPf RX8 41 8 8 true (.ref q) := ⟨_, tyX8, (.object "SessionHouse$Ints"), rfl, u_RX8, tyX8_ok, nmX8, by decide, (zGT_in zch2 230 rfl rfl), rfl, rfl, by decide +kernel, rfl, rfl⟩
set_option maxRecDepth 20000 in
theorem pf_X8_44 {q : Nat} : zPf RX8 44 8 9 true (.ref q) := ⟨_, tyX8, (.object "SessionHouse$Ints"), rfl, u_RX8, tyX8_ok, nmX8, by decide, (zGT_in zch2 232 rfl rfl), rfl, rfl, by decide +kernel, rfl, rfl⟩
set_option maxRecDepth 20000 in
theorem yy_X9_init : zY yX9_init cX9_init 1 none 0 := ⟨(zGT_in zch1 151 rfl rfl), (zGT_in zch1 6 rfl rfl), by decide +kernel, by decide +kernel, by decide +kernel, by decide⟩
set_option maxRecDepth 20000 in
theorem yi_X9_init : Cond.instanceMethod yX9_init ∈ zGT := (zGT_in zch1 150 rfl rfl)
set_option maxRecDepth 20000 in
theorem lo_X9_3 : Cond.methodLink RX9 3 Lib.objectInit ∈ zGT := (zGT_in zch1 152 rfl rfl)
set_option maxRecDepth 20000 in
theorem mk_X9_9 : zMk RX9 9 5 [.null] 1 := ⟨_, tyX5, rfl, rfl, u_RX5, tyX5_ok, (zGT_in zch1 153 rfl rfl), (zGT_in zch1 30 rfl rfl), (zGT_in zch1 2 rfl rfl), by decide +kernel⟩
set_option maxRecDepth 20000 in
theorem li_X9_11 : zLi RX9 11 yX5_init := Or.inl (zGT_in zch1 154 rfl rfl)
set_option maxRecDepth 20000 in
theorem pf_X9_14 {q : Nat} : zPf RX9 14 9 0 true (.ref q) := ⟨_, tyX9, (.object "SessionHouse$Ints"), rfl, u_RX9, tyX9_ok, nmX9, by decide, (zGT_in zch1 155 rfl rfl), rfl, rfl, by decide +kernel, rfl, rfl⟩
set_option maxRecDepth 20000 in
theorem pf_X9_20 {q : Nat} : zPf RX9 20 9 1 true (.ref q) := ⟨_, tyX9, (.object "SessionHouse$Ints"), rfl, u_RX9, tyX9_ok, nmX9, by decide, (zGT_in zch1 158 rfl rfl), rfl, rfl, by decide +kernel, rfl, rfl⟩
set_option maxRecDepth 20000 in
theorem pf_X9_23 {q : Nat} : zPf RX9 23 9 2 true (.ref q) := ⟨_, tyX9, (.object "SessionHouse$Ints"), rfl, u_RX9, tyX9_ok, nmX9, by decide, (zGT_in zch1 160 rfl rfl), rfl, rfl, by decide +kernel, rfl, rfl⟩
set_option maxRecDepth 20000 in
theorem pf_X9_26 {q : Nat} : zPf RX9 26 9 3 true (.ref q) := ⟨_, tyX9, (.object "SessionHouse$Ints"), rfl, u_RX9, tyX9_ok, nmX9, by decide, (zGT_in zch1 164 rfl rfl), rfl, rfl, by decide +kernel, rfl, rfl⟩
set_option maxRecDepth 20000 in
theorem pf_X9_29 {q : Nat} : zPf RX9 29 9 4 true (.ref q) := ⟨_, tyX9, (.object "SessionHouse$Ints"), rfl, u_RX9, tyX9_ok, nmX9, by decide, (zGT_in zch1 168 rfl rfl), rfl, rfl, by decide +kernel, rfl, rfl⟩
set_option maxRecDepth 20000 in
theorem pf_X9_32 {q : Nat} : zPf RX9 32 9 5 true (.ref q) := ⟨_, tyX9, (.object "SessionHouse$Ints"), rfl, u_RX9, tyX9_ok, nmX9, by decide, (zGT_in zch1 172 rfl rfl), rfl, rfl, by decide +kernel, rfl, rfl⟩
set_option maxRecDepth 20000 in
theorem pf_X9_35 {q : Nat} : zPf RX9 35 9 6 true (.ref q) := ⟨_, tyX9, (.object "SessionHouse$Ints"), rfl, u_RX9, tyX9_ok, nmX9, by decide, (zGT_in zch1 176 rfl rfl), rfl, rfl, by decide +kernel, rfl, rfl⟩
set_option maxRecDepth 20000 in
theorem pf_X9_38 {q : Nat} : zPf RX9 38 9 7 true (.ref q) := ⟨_, tyX9, (.object "SessionHouse$Ints"), rfl, u_RX9, tyX9_ok, nmX9, by decide, (zGT_in zch1 179 rfl rfl), rfl, rfl, by decide +kernel, rfl, rfl⟩
set_option maxRecDepth 20000 in
theorem pf_X9_41 {q : Nat} : zPf RX9 41 9 8 true (.ref q) := ⟨_, tyX9, (.object "SessionHouse$Ints"), rfl, u_RX9, tyX9_ok, nmX9, by decide, (zGT_in zch1 180 rfl rfl), rfl, rfl, by decide +kernel, rfl, rfl⟩
set_option maxRecDepth 20000 in
theorem pf_X9_44 {q : Nat} : zPf RX9 44 9 9 true (.ref q) := ⟨_, tyX9, (.object "SessionHouse$Ints"), rfl, u_RX9, tyX9_ok, nmX9, by decide, (zGT_in zch1 182 rfl rfl), rfl, rfl, by decide +kernel, rfl, rfl⟩
set_option maxRecDepth 20000 in
theorem pf_X9_47 {q : Nat} : zPf RX9 47 9 10 true (.ref q) := ⟨_, tyX9, (.object "SessionHouse$Ints"), rfl, u_RX9, tyX9_ok, nmX9, by decide, (zGT_in zch1 185 rfl rfl), rfl, rfl, by decide +kernel, rfl, rfl⟩
set_option maxRecDepth 20000 in
theorem pf_X9_50 {q : Nat} : zPf RX9 50 9 11 true (.ref q) := ⟨_, tyX9, (.object "SessionHouse$Ints"), rfl, u_RX9, tyX9_ok, nmX9, by decide, (zGT_in zch1 188 rfl rfl), rfl, rfl, by decide +kernel, rfl, rfl⟩
set_option maxRecDepth 20000 in
theorem pf_X9_53 {q : Nat} : zPf RX9 53 9 12 true (.ref q) := ⟨_, tyX9, (.object "SessionHouse$Ints"), rfl, u_RX9, tyX9_ok, nmX9, by decide, (zGT_in zch1 190 rfl rfl), rfl, rfl, by decide +kernel, rfl, rfl⟩
set_option maxRecDepth 20000 in
theorem pf_X9_56 {q : Nat} : zPf RX9 56 9 13 true (.ref q) := ⟨_, tyX9, (.object "SessionHouse$Ints"), rfl, u_RX9, tyX9_ok, nmX9, by decide, (zGT_in zch1 192 rfl rfl), rfl, rfl, by decide +kernel, rfl, rfl⟩
set_option maxRecDepth 20000 in
theorem pf_X9_59 {q : Nat} : zPf RX9 59 9 14 true (.ref q) := ⟨_, tyX9, (.object "SessionHouse$Ints"), rfl, u_RX9, tyX9_ok, nmX9, by decide, (zGT_in zch1 195 rfl rfl), rfl, rfl, by decide +kernel, rfl, rfl⟩
set_option maxRecDepth 20000 in
theorem yy_X10_init : zY yX10_init cX10_init 1 none 0 := ⟨(zGT_in zch2 56 rfl rfl), (zGT_in zch1 9 rfl rfl), by decide +kernel, by decide +kernel, by decide +kernel, by decide⟩
set_option maxRecDepth 20000 in
theorem yi_X10_init : Cond.instanceMethod yX10_init ∈ zGT := (zGT_in zch2 55 rfl rfl)
set_option maxRecDepth 20000 in
theorem lo_X10_3 : Cond.methodLink RX10 3 Lib.objectInit ∈ zGT := (zGT_in zch2 57 rfl rfl)
set_option maxRecDepth 20000 in
theorem pf_X10_9 {q : Nat} : zPf RX10 9 10 0 true (.ref q) := ⟨_, tyX10, (.array .int), rfl, u_RX10, tyX10_ok, nmX10, by decide, (zGT_in zch2 60 rfl rfl), rfl, rfl, by decide +kernel, rfl, rfl⟩
set_option maxRecDepth 20000 in
theorem mk_X10_15 : zMk RX10 15 5 [.null] 1 := ⟨_, tyX5, rfl, rfl, u_RX5, tyX5_ok, (zGT_in zch2 58 rfl rfl), (zGT_in zch1 30 rfl rfl), (zGT_in zch1 2 rfl rfl), by decide +kernel⟩
set_option maxRecDepth 20000 in
theorem li_X10_17 : zLi RX10 17 yX5_init := Or.inl (zGT_in zch2 59 rfl rfl)
set_option maxRecDepth 20000 in
theorem pf_X10_20 {q : Nat} : zPf RX10 20 10 1 true (.ref q) := ⟨_, tyX10, (.object "SessionHouse$Ints"), rfl, u_RX10, tyX10_ok, nmX10, by decide, (zGT_in zch2 62 rfl rfl), rfl, rfl, by decide +kernel, rfl, rfl⟩
set_option maxRecDepth 20000 in
theorem pf_X10_24 {q : Nat} : zPf RX10 24 10 2 true (.ref q) := ⟨_, tyX10, (.object "SessionHouse$Ints"), rfl, u_RX10, tyX10_ok, nmX10, by decide, (zGT_in zch2 63 rfl rfl), rfl, rfl, by decide +kernel, rfl, rfl⟩
set_option maxRecDepth 20000 in
theorem pf_X10_27 {q : Nat} : zPf RX10 27 10 3 true (.ref q) := ⟨_, tyX10, (.object "SessionHouse$Ints"), rfl, u_RX10, tyX10_ok, nmX10, by decide, (zGT_in zch2 64 rfl rfl), rfl, rfl, by decide +kernel, rfl, rfl⟩
set_option maxRecDepth 20000 in
theorem yy_X7_init : zY yX7_init cX7_init 5 none 4 := ⟨(zGT_in zch2 50 rfl rfl), (zGT_in zch1 8 rfl rfl), by decide +kernel, by decide +kernel, by decide +kernel, by decide⟩
set_option maxRecDepth 20000 in
theorem yi_X7_init : Cond.instanceMethod yX7_init ∈ zGT := (zGT_in zch2 49 rfl rfl)
set_option maxRecDepth 20000 in
theorem lo_X7_3 : Cond.methodLink RX7 3 Lib.objectInit ∈ zGT := (zGT_in zch2 51 rfl rfl)
set_option maxRecDepth 20000 in
theorem mk_X7_9 : zMk RX7 9 10 [.null, .null, .null, .null, .int 0, .int 0, .int 0] 7 := ⟨_, tyX10, rfl, rfl, u_RX10, tyX10_ok, (zGT_in zch2 52 rfl rfl), (zGT_in zch2 53 rfl rfl), (zGT_in zch1 9 rfl rfl), by decide +kernel⟩
set_option maxRecDepth 20000 in
theorem li_X7_11 : zLi RX7 11 yX10_init := Or.inr ⟨"SessionHouse", List.mem_of_getElem? (i := 0) rfl⟩
set_option maxRecDepth 20000 in
theorem pf_X7_12 {q : Nat} : zPf RX7 12 7 0 true (.ref q) := ⟨_, tyX7, (.object "SessionHouse$Words"), rfl, u_RX7, tyX7_ok, nmX7, by decide, (zGT_in zch2 85 rfl rfl), rfl, rfl, by decide +kernel, rfl, rfl⟩
set_option maxRecDepth 20000 in
theorem mk_X7_18 : zMk RX7 18 5 [.null] 1 := ⟨_, tyX5, rfl, rfl, u_RX5, tyX5_ok, (zGT_in zch2 83 rfl rfl), (zGT_in zch1 30 rfl rfl), (zGT_in zch1 2 rfl rfl), by decide +kernel⟩
set_option maxRecDepth 20000 in
theorem li_X7_20 : zLi RX7 20 yX5_init := Or.inl (zGT_in zch2 84 rfl rfl)
set_option maxRecDepth 20000 in
theorem pf_X7_23 {q : Nat} : zPf RX7 23 7 5 true (.ref q) := ⟨_, tyX7, (.object "SessionHouse$Ints"), rfl, u_RX7, tyX7_ok, nmX7, by decide, (zGT_in zch2 90 rfl rfl), rfl, rfl, by decide +kernel, rfl, rfl⟩
set_option maxRecDepth 20000 in
theorem pf_X7_27 {q : Nat} : zPf RX7 27 7 6 true (.ref q) := ⟨_, tyX7, (.object "SessionHouse$Ints"), rfl, u_RX7, tyX7_ok, nmX7, by decide, (zGT_in zch2 91 rfl rfl), rfl, rfl, by decide +kernel, rfl, rfl⟩
set_option maxRecDepth 20000 in
theorem pf_X7_30 {q : Nat} : zPf RX7 30 7 1 true (.ref q) := ⟨_, tyX7, (.object "SessionHouse$Forms"), rfl, u_RX7, tyX7_ok, nmX7, by decide, (zGT_in zch2 86 rfl rfl), rfl, rfl, by decide +kernel, rfl, rfl⟩
set_option maxRecDepth 20000 in
theorem pf_X7_34 {q : Nat} : zPf RX7 34 7 2 true (.ref q) := ⟨_, tyX7, (.object "SessionHouse$Formulas"), rfl, u_RX7, tyX7_ok, nmX7, by decide, (zGT_in zch2 87 rfl rfl), rfl, rfl, by decide +kernel, rfl, rfl⟩
set_option maxRecDepth 20000 in
theorem pf_X7_38 {q : Nat} : zPf RX7 38 7 3 true (.ref q) := ⟨_, tyX7, (.object "SessionHouse$Statements"), rfl, u_RX7, tyX7_ok, nmX7, by decide, (zGT_in zch2 88 rfl rfl), rfl, rfl, by decide +kernel, rfl, rfl⟩
set_option maxRecDepth 20000 in
theorem pf_X7_42 {q : Nat} : zPf RX7 42 7 4 true (.ref q) := ⟨_, tyX7, (.object "SessionHouse$Procs"), rfl, u_RX7, tyX7_ok, nmX7, by decide, (zGT_in zch2 89 rfl rfl), rfl, rfl, by decide +kernel, rfl, rfl⟩
set_option maxRecDepth 20000 in
theorem yy_X4_init : zY yX4_init cX4_init 4 none 3 := ⟨(zGT_in zch2 166 rfl rfl), (zGT_in zch1 11 rfl rfl), by decide +kernel, by decide +kernel, by decide +kernel, by decide⟩
set_option maxRecDepth 20000 in
theorem yi_X4_init : Cond.instanceMethod yX4_init ∈ zGT := (zGT_in zch2 165 rfl rfl)
set_option maxRecDepth 20000 in
theorem lo_X4_3 : Cond.methodLink RX4 3 Lib.objectInit ∈ zGT := (zGT_in zch2 167 rfl rfl)
set_option maxRecDepth 20000 in
theorem mk_X4_9 : zMk RX4 9 0 [.null, .null, .null, .null, .null, .int 0, .int 0, .int 0, .int 0, .int 0] 10 := ⟨_, tyX0, rfl, rfl, u_RX0, tyX0_ok, (zGT_in zch2 168 rfl rfl), (zGT_in zch2 169 rfl rfl), (zGT_in zch1 12 rfl rfl), by decide +kernel⟩
set_option maxRecDepth 20000 in
theorem li_X4_11 : zLi RX4 11 yX0_init := Or.inr ⟨"SessionHouse", List.mem_of_getElem? (i := 1) rfl⟩
set_option maxRecDepth 20000 in
theorem pf_X4_12 {q : Nat} : zPf RX4 12 4 3 true (.ref q) := ⟨_, tyX4, (.object "SessionHouse$Channels"), rfl, u_RX4, tyX4_ok, nmX4, by decide, (zGT_in zch3 45 rfl rfl), rfl, rfl, by decide +kernel, rfl, rfl⟩
set_option maxRecDepth 20000 in
theorem mk_X4_18 : zMk RX4 18 8 [.null, .null, .null, .null, .null, .null, .null, .null, .null, .null, .int 0, .int 0, .int 0, .int 0, .int 0, .int 0, .int 0, .int 0] 18 := ⟨_, tyX8, rfl, rfl, u_RX8, tyX8_ok, (zGT_in zch2 209 rfl rfl), (zGT_in zch2 210 rfl rfl), (zGT_in zch1 13 rfl rfl), by decide +kernel⟩
set_option maxRecDepth 20000 in
theorem li_X4_20 : zLi RX4 20 yX8_init := Or.inr ⟨"SessionHouse", List.mem_of_getElem? (i := 2) rfl⟩
set_option maxRecDepth 20000 in
theorem pf_X4_21 {q : Nat} : zPf RX4 21 4 4 true (.ref q) := ⟨_, tyX4, (.object "SessionHouse$Ring"), rfl, u_RX4, tyX4_ok, nmX4, by decide, (zGT_in zch3 46 rfl rfl), rfl, rfl, by decide +kernel, rfl, rfl⟩
set_option maxRecDepth 20000 in
theorem mk_X4_25 : zMk RX4 25 5 [.null] 1 := ⟨_, tyX5, rfl, rfl, u_RX5, tyX5_ok, (zGT_in zch3 40 rfl rfl), (zGT_in zch1 30 rfl rfl), (zGT_in zch1 2 rfl rfl), by decide +kernel⟩
set_option maxRecDepth 20000 in
theorem li_X4_27 : zLi RX4 27 yX5_init := Or.inl (zGT_in zch3 41 rfl rfl)
set_option maxRecDepth 20000 in
theorem pf_X4_30 {q : Nat} : zPf RX4 30 4 5 true (.ref q) := ⟨_, tyX4, (.object "SessionHouse$Ints"), rfl, u_RX4, tyX4_ok, nmX4, by decide, (zGT_in zch3 47 rfl rfl), rfl, rfl, by decide +kernel, rfl, rfl⟩
set_option maxRecDepth 20000 in
theorem pf_X4_34 {q : Nat} : zPf RX4 34 4 6 true (.ref q) := ⟨_, tyX4, (.object "SessionHouse$Ints"), rfl, u_RX4, tyX4_ok, nmX4, by decide, (zGT_in zch3 48 rfl rfl), rfl, rfl, by decide +kernel, rfl, rfl⟩
set_option maxRecDepth 20000 in
theorem pf_X4_37 {q : Nat} : zPf RX4 37 4 7 true (.ref q) := ⟨_, tyX4, (.object "SessionHouse$Ints"), rfl, u_RX4, tyX4_ok, nmX4, by decide, (zGT_in zch3 49 rfl rfl), rfl, rfl, by decide +kernel, rfl, rfl⟩
set_option maxRecDepth 20000 in
theorem pf_X4_40 : zPf RX4 40 4 16 false (.int (-1)) := ⟨_, tyX4, .int, rfl, u_RX4, tyX4_ok, nmX4, by decide, (zGT_in zch3 59 rfl rfl), rfl, rfl, by decide +kernel, rfl, rfl⟩
set_option maxRecDepth 20000 in
theorem pf_X4_44 {q : Nat} : zPf RX4 44 4 0 true (.ref q) := ⟨_, tyX4, (.object "SessionHouse$Formulas"), rfl, u_RX4, tyX4_ok, nmX4, by decide, (zGT_in zch3 42 rfl rfl), rfl, rfl, by decide +kernel, rfl, rfl⟩
set_option maxRecDepth 20000 in
theorem pf_X4_48 {q : Nat} : zPf RX4 48 4 1 true (.ref q) := ⟨_, tyX4, (.object "SessionHouse$Statements"), rfl, u_RX4, tyX4_ok, nmX4, by decide, (zGT_in zch3 43 rfl rfl), rfl, rfl, by decide +kernel, rfl, rfl⟩
set_option maxRecDepth 20000 in
theorem pf_X4_52 {q : Nat} : zPf RX4 52 4 2 true (.ref q) := ⟨_, tyX4, (.object "SessionHouse$Procs"), rfl, u_RX4, tyX4_ok, nmX4, by decide, (zGT_in zch3 44 rfl rfl), rfl, rfl, by decide +kernel, rfl, rfl⟩
set_option maxRecDepth 20000 in
theorem yy_X11_init : zY yX11_init cX11_init 5 none 0 := ⟨(zGT_in zch1 25 rfl rfl), (zGT_in zch1 1 rfl rfl), by decide +kernel, by decide +kernel, by decide +kernel, by decide⟩
set_option maxRecDepth 20000 in
theorem yi_X11_init : Cond.instanceMethod yX11_init ∈ zGT := (zGT_in zch1 24 rfl rfl)
set_option maxRecDepth 20000 in
theorem lo_X11_1 : Cond.methodLink RX11 1 Lib.objectInit ∈ zGT := (zGT_in zch1 26 rfl rfl)
set_option maxRecDepth 20000 in
theorem mk_X11_7 : zMk RX11 7 5 [.null] 1 := ⟨_, tyX5, rfl, rfl, u_RX5, tyX5_ok, (zGT_in zch1 29 rfl rfl), (zGT_in zch1 30 rfl rfl), (zGT_in zch1 2 rfl rfl), by decide +kernel⟩
set_option maxRecDepth 20000 in
theorem li_X11_11 : zLi RX11 11 yX5_init := Or.inl (zGT_in zch1 31 rfl rfl)
set_option maxRecDepth 20000 in
theorem pf_X11_14 {q : Nat} : zPf RX11 14 11 0 true (.ref q) := ⟨_, tyX11, (.object "SessionHouse$Ints"), rfl, u_RX11, tyX11_ok, nmX11, by decide, (zGT_in zch3 96 rfl rfl), rfl, rfl, by decide +kernel, rfl, rfl⟩
set_option maxRecDepth 20000 in
theorem pf_X11_18 : zPf RX11 18 11 7 false (.int 4) := ⟨_, tyX11, .int, rfl, u_RX11, tyX11_ok, nmX11, by decide, (zGT_in zch3 103 rfl rfl), rfl, rfl, by decide +kernel, rfl, rfl⟩
set_option maxRecDepth 20000 in
theorem pf_X11_22 : zPf RX11 22 11 8 false (.int 2000) := ⟨_, tyX11, .int, rfl, u_RX11, tyX11_ok, nmX11, by decide, (zGT_in zch3 104 rfl rfl), rfl, rfl, by decide +kernel, rfl, rfl⟩
set_option maxRecDepth 20000 in
theorem mk_X11_25 : zMk RX11 25 2 [.null, .null, .null, .null, .null, .null, .null, .null, .null, .null, .null, .null, .int 0, .int 0, .int 0, .int 0] 16 := ⟨_, tyX2, rfl, rfl, u_RX2, tyX2_ok, (zGT_in zch1 43 rfl rfl), (zGT_in zch1 44 rfl rfl), (zGT_in zch1 4 rfl rfl), by decide +kernel⟩
set_option maxRecDepth 20000 in
theorem li_X11_27 : zLi RX11 27 yX2_init := Or.inr ⟨"SessionHouse", List.mem_of_getElem? (i := 3) rfl⟩
set_option maxRecDepth 20000 in
theorem mk_X11_28 : zMk RX11 28 3 [.null, .null, .null, .null, .null, .null, .int 0, .int 0, .int 0] 9 := ⟨_, tyX3, rfl, rfl, u_RX3, tyX3_ok, (zGT_in zch1 102 rfl rfl), (zGT_in zch1 103 rfl rfl), (zGT_in zch1 5 rfl rfl), by decide +kernel⟩
set_option maxRecDepth 20000 in
theorem li_X11_30 : zLi RX11 30 yX3_init := Or.inr ⟨"SessionHouse", List.mem_of_getElem? (i := 4) rfl⟩
set_option maxRecDepth 20000 in
theorem mk_X11_31 : zMk RX11 31 9 [.null, .null, .null, .null, .null, .null, .null, .null, .null, .null, .null, .null, .null, .null, .null, .int 0, .int 0] 17 := ⟨_, tyX9, rfl, rfl, u_RX9, tyX9_ok, (zGT_in zch1 147 rfl rfl), (zGT_in zch1 148 rfl rfl), (zGT_in zch1 6 rfl rfl), by decide +kernel⟩
set_option maxRecDepth 20000 in
theorem li_X11_33 : zLi RX11 33 yX9_init := Or.inr ⟨"SessionHouse", List.mem_of_getElem? (i := 5) rfl⟩
set_option maxRecDepth 20000 in
theorem mk_X11_34 : zMk RX11 34 6 [.null, .null, .null, .null, .null, .null, .null, .null, .null, .int 0, .int 0] 11 := ⟨_, tyX6, rfl, rfl, u_RX6, tyX6_ok, (zGT_in zch1 235 rfl rfl), (zGT_in zch1 236 rfl rfl), (zGT_in zch1 7 rfl rfl), by decide +kernel⟩
set_option maxRecDepth 20000 in
theorem li_X11_36 : zLi RX11 36 yX6_init := Or.inr ⟨"SessionHouse", List.mem_of_getElem? (i := 6) rfl⟩
set_option maxRecDepth 20000 in
theorem mk_X11_37 : zMk RX11 37 7 [.null, .null, .null, .null, .null, .null, .null, .int 0, .int 0, .int 0, .int 0, .int 0, .int 0, .int 0, .int 0] 15 := ⟨_, tyX7, rfl, rfl, u_RX7, tyX7_ok, (zGT_in zch2 46 rfl rfl), (zGT_in zch2 47 rfl rfl), (zGT_in zch1 8 rfl rfl), by decide +kernel⟩
set_option maxRecDepth 20000 in
theorem li_X11_39 : zLi RX11 39 yX7_init := Or.inl (zGT_in zch2 48 rfl rfl)
set_option maxRecDepth 20000 in
theorem pf_X11_42 {q : Nat} : zPf RX11 42 11 3 true (.ref q) := ⟨_, tyX11, (.object "SessionHouse$Reader"), rfl, u_RX11, tyX11_ok, nmX11, by decide, (zGT_in zch3 99 rfl rfl), rfl, rfl, by decide +kernel, rfl, rfl⟩
set_option maxRecDepth 20000 in
theorem mk_X11_46 : zMk RX11 46 1 [.null, .null, .null, .null, .null, .int 0, .int 0] 7 := ⟨_, tyX1, rfl, rfl, u_RX1, tyX1_ok, (zGT_in zch2 131 rfl rfl), (zGT_in zch2 132 rfl rfl), (zGT_in zch1 10 rfl rfl), by decide +kernel⟩
set_option maxRecDepth 20000 in
theorem li_X11_48 : zLi RX11 48 yX1_init := Or.inl (zGT_in zch2 133 rfl rfl)
set_option maxRecDepth 20000 in
theorem pf_X11_49 {q : Nat} : zPf RX11 49 11 4 true (.ref q) := ⟨_, tyX11, (.object "SessionHouse$Checker"), rfl, u_RX11, tyX11_ok, nmX11, by decide, (zGT_in zch3 100 rfl rfl), rfl, rfl, by decide +kernel, rfl, rfl⟩
set_option maxRecDepth 20000 in
theorem mk_X11_53 : zMk RX11 53 4 [.null, .null, .null, .null, .null, .null, .null, .null, .int 0, .int 0, .int 0, .int 0, .int 0, .int 0, .int 0, .int 0, .int 0] 17 := ⟨_, tyX4, rfl, rfl, u_RX4, tyX4_ok, (zGT_in zch2 162 rfl rfl), (zGT_in zch2 163 rfl rfl), (zGT_in zch1 11 rfl rfl), by decide +kernel⟩
set_option maxRecDepth 20000 in
theorem li_X11_55 : zLi RX11 55 yX4_init := Or.inl (zGT_in zch2 164 rfl rfl)
set_option maxRecDepth 20000 in
theorem pf_X11_58 {q : Nat} : zPf RX11 58 11 5 true (.ref q) := ⟨_, tyX11, (.object "SessionHouse$House"), rfl, u_RX11, tyX11_ok, nmX11, by decide, (zGT_in zch3 101 rfl rfl), rfl, rfl, by decide +kernel, rfl, rfl⟩
set_option maxRecDepth 20000 in
theorem pf_X11_62 {q : Nat} : zPf RX11 62 11 1 true (.ref q) := ⟨_, tyX11, (.object "SessionHouse$Forms"), rfl, u_RX11, tyX11_ok, nmX11, by decide, (zGT_in zch3 97 rfl rfl), rfl, rfl, by decide +kernel, rfl, rfl⟩
set_option maxRecDepth 20000 in
theorem pf_X11_66 {q : Nat} : zPf RX11 66 11 2 true (.ref q) := ⟨_, tyX11, (.object "SessionHouse$Procs"), rfl, u_RX11, tyX11_ok, nmX11, by decide, (zGT_in zch3 98 rfl rfl), rfl, rfl, by decide +kernel, rfl, rfl⟩
set_option maxRecDepth 20000 in
theorem yy_X12_init : zY yX12_init cX12_init 1 none 0 := ⟨(zGT_in zch6 190 rfl rfl), (zGT_in zch1 14 rfl rfl), by decide +kernel, by decide +kernel, by decide +kernel, by decide⟩
set_option maxRecDepth 20000 in
theorem yi_X12_init : Cond.instanceMethod yX12_init ∈ zGT := (zGT_in zch6 189 rfl rfl)
set_option maxRecDepth 20000 in
theorem lo_X12_1 : Cond.methodLink RX12 1 Lib.objectInit ∈ zGT := (zGT_in zch6 191 rfl rfl)
set_option maxRecDepth 20000 in
theorem pf_X12_7 {q : Nat} : zPf RX12 7 12 0 true (.ref q) := ⟨_, tyX12, (.array .int), rfl, u_RX12, tyX12_ok, nmX12, by decide, (zGT_in zch6 193 rfl rfl), rfl, rfl, by decide +kernel, rfl, rfl⟩
set_option maxRecDepth 20000 in
theorem pf_X12_13 {q : Nat} : zPf RX12 13 12 2 true (.ref q) := ⟨_, tyX12, (.array .int), rfl, u_RX12, tyX12_ok, nmX12, by decide, (zGT_in zch6 195 rfl rfl), rfl, rfl, by decide +kernel, rfl, rfl⟩
set_option maxRecDepth 20000 in
theorem pf_X12_16 {q : Nat} : zPf RX12 16 12 12 true (.ref q) := ⟨_, tyX12, (.array .int), rfl, u_RX12, tyX12_ok, nmX12, by decide, (zGT_in zch6 205 rfl rfl), rfl, rfl, by decide +kernel, rfl, rfl⟩
set_option maxRecDepth 20000 in
theorem pf_X12_19 {q : Nat} : zPf RX12 19 12 13 true (.ref q) := ⟨_, tyX12, (.array .int), rfl, u_RX12, tyX12_ok, nmX12, by decide, (zGT_in zch6 206 rfl rfl), rfl, rfl, by decide +kernel, rfl, rfl⟩
set_option maxRecDepth 20000 in
theorem pf_X12_22 {q : Nat} : zPf RX12 22 12 15 true (.ref q) := ⟨_, tyX12, (.array .int), rfl, u_RX12, tyX12_ok, nmX12, by decide, (zGT_in zch6 208 rfl rfl), rfl, rfl, by decide +kernel, rfl, rfl⟩
set_option maxRecDepth 20000 in
theorem pf_X12_25 {q : Nat} : zPf RX12 25 12 16 true (.ref q) := ⟨_, tyX12, (.array .int), rfl, u_RX12, tyX12_ok, nmX12, by decide, (zGT_in zch6 209 rfl rfl), rfl, rfl, by decide +kernel, rfl, rfl⟩
set_option maxRecDepth 20000 in
theorem pf_X12_28 {q : Nat} : zPf RX12 28 12 17 true (.ref q) := ⟨_, tyX12, (.array .int), rfl, u_RX12, tyX12_ok, nmX12, by decide, (zGT_in zch6 210 rfl rfl), rfl, rfl, by decide +kernel, rfl, rfl⟩
set_option maxRecDepth 20000 in
theorem pf_X12_31 {q : Nat} : zPf RX12 31 12 18 true (.ref q) := ⟨_, tyX12, (.array .int), rfl, u_RX12, tyX12_ok, nmX12, by decide, (zGT_in zch6 211 rfl rfl), rfl, rfl, by decide +kernel, rfl, rfl⟩
set_option maxRecDepth 20000 in
theorem pf_X12_34 {q : Nat} : zPf RX12 34 12 20 true (.ref q) := ⟨_, tyX12, (.array .int), rfl, u_RX12, tyX12_ok, nmX12, by decide, (zGT_in zch6 213 rfl rfl), rfl, rfl, by decide +kernel, rfl, rfl⟩
set_option maxRecDepth 20000 in
theorem pf_X12_37 {q : Nat} : zPf RX12 37 12 21 true (.ref q) := ⟨_, tyX12, (.array .int), rfl, u_RX12, tyX12_ok, nmX12, by decide, (zGT_in zch6 214 rfl rfl), rfl, rfl, by decide +kernel, rfl, rfl⟩
set_option maxRecDepth 20000 in
theorem pf_X12_40 {q : Nat} : zPf RX12 40 12 23 true (.ref q) := ⟨_, tyX12, (.array .int), rfl, u_RX12, tyX12_ok, nmX12, by decide, (zGT_in zch6 216 rfl rfl), rfl, rfl, by decide +kernel, rfl, rfl⟩
set_option maxRecDepth 20000 in
theorem pf_X12_43 {q : Nat} : zPf RX12 43 12 24 true (.ref q) := ⟨_, tyX12, (.array .int), rfl, u_RX12, tyX12_ok, nmX12, by decide, (zGT_in zch6 217 rfl rfl), rfl, rfl, by decide +kernel, rfl, rfl⟩
set_option maxRecDepth 20000 in
theorem pf_X12_46 {q : Nat} : zPf RX12 46 12 25 true (.ref q) := ⟨_, tyX12, (.array .int), rfl, u_RX12, tyX12_ok, nmX12, by decide, (zGT_in zch6 218 rfl rfl), rfl, rfl, by decide +kernel, rfl, rfl⟩
set_option maxRecDepth 20000 in
theorem pf_X12_49 {q : Nat} : zPf RX12 49 12 27 true (.ref q) := ⟨_, tyX12, (.array .int), rfl, u_RX12, tyX12_ok, nmX12, by decide, (zGT_in zch6 220 rfl rfl), rfl, rfl, by decide +kernel, rfl, rfl⟩
set_option maxRecDepth 20000 in
theorem pf_X12_52 {q : Nat} : zPf RX12 52 12 28 true (.ref q) := ⟨_, tyX12, (.array .int), rfl, u_RX12, tyX12_ok, nmX12, by decide, (zGT_in zch6 221 rfl rfl), rfl, rfl, by decide +kernel, rfl, rfl⟩
set_option maxRecDepth 20000 in
theorem pf_X12_55 {q : Nat} : zPf RX12 55 12 29 true (.ref q) := ⟨_, tyX12, (.array .int), rfl, u_RX12, tyX12_ok, nmX12, by decide, (zGT_in zch6 222 rfl rfl), rfl, rfl, by decide +kernel, rfl, rfl⟩
set_option maxRecDepth 20000 in
theorem pf_X12_58 {q : Nat} : zPf RX12 58 12 30 true (.ref q) := ⟨_, tyX12, (.array .int), rfl, u_RX12, tyX12_ok, nmX12, by decide, (zGT_in zch6 223 rfl rfl), rfl, rfl, by decide +kernel, rfl, rfl⟩
set_option maxRecDepth 20000 in
theorem pf_X12_61 {q : Nat} : zPf RX12 61 12 31 true (.ref q) := ⟨_, tyX12, (.array .int), rfl, u_RX12, tyX12_ok, nmX12, by decide, (zGT_in zch6 224 rfl rfl), rfl, rfl, by decide +kernel, rfl, rfl⟩
set_option maxRecDepth 20000 in
theorem pf_X12_64 {q : Nat} : zPf RX12 64 12 32 true (.ref q) := ⟨_, tyX12, (.array .int), rfl, u_RX12, tyX12_ok, nmX12, by decide, (zGT_in zch6 225 rfl rfl), rfl, rfl, by decide +kernel, rfl, rfl⟩
set_option maxRecDepth 20000 in
theorem pf_X12_67 {q : Nat} : zPf RX12 67 12 33 true (.ref q) := ⟨_, tyX12, (.array .int), rfl, u_RX12, tyX12_ok, nmX12, by decide, (zGT_in zch6 226 rfl rfl), rfl, rfl, by decide +kernel, rfl, rfl⟩
set_option maxRecDepth 20000 in
theorem pf_X12_70 {q : Nat} : zPf RX12 70 12 34 true (.ref q) := ⟨_, tyX12, (.array .int), rfl, u_RX12, tyX12_ok, nmX12, by decide, (zGT_in zch6 227 rfl rfl), rfl, rfl, by decide +kernel, rfl, rfl⟩
set_option maxRecDepth 20000 in
theorem pf_X12_73 {q : Nat} : zPf RX12 73 12 35 true (.ref q) := ⟨_, tyX12, (.array .int), rfl, u_RX12, tyX12_ok, nmX12, by decide, (zGT_in zch6 228 rfl rfl), rfl, rfl, by decide +kernel, rfl, rfl⟩
set_option maxRecDepth 20000 in
theorem pf_X12_76 {q : Nat} : zPf RX12 76 12 37 true (.ref q) := ⟨_, tyX12, (.array .int), rfl, u_RX12, tyX12_ok, nmX12, by decide, (zGT_in zch6 230 rfl rfl), rfl, rfl, by decide +kernel, rfl, rfl⟩
set_option maxRecDepth 20000 in
theorem pf_X12_79 {q : Nat} : zPf RX12 79 12 38 true (.ref q) := ⟨_, tyX12, (.array .int), rfl, u_RX12, tyX12_ok, nmX12, by decide, (zGT_in zch6 231 rfl rfl), rfl, rfl, by decide +kernel, rfl, rfl⟩
set_option maxRecDepth 20000 in
theorem pf_X12_82 {q : Nat} : zPf RX12 82 12 40 true (.ref q) := ⟨_, tyX12, (.array .int), rfl, u_RX12, tyX12_ok, nmX12, by decide, (zGT_in zch6 233 rfl rfl), rfl, rfl, by decide +kernel, rfl, rfl⟩
set_option maxRecDepth 20000 in
theorem pf_X12_85 {q : Nat} : zPf RX12 85 12 41 true (.ref q) := ⟨_, tyX12, (.array .int), rfl, u_RX12, tyX12_ok, nmX12, by decide, (zGT_in zch6 234 rfl rfl), rfl, rfl, by decide +kernel, rfl, rfl⟩
set_option maxRecDepth 20000 in
theorem pf_X12_88 {q : Nat} : zPf RX12 88 12 43 true (.ref q) := ⟨_, tyX12, (.array .int), rfl, u_RX12, tyX12_ok, nmX12, by decide, (zGT_in zch6 236 rfl rfl), rfl, rfl, by decide +kernel, rfl, rfl⟩
set_option maxRecDepth 20000 in
theorem pf_X12_91 {q : Nat} : zPf RX12 91 12 45 true (.ref q) := ⟨_, tyX12, (.array .int), rfl, u_RX12, tyX12_ok, nmX12, by decide, (zGT_in zch6 238 rfl rfl), rfl, rfl, by decide +kernel, rfl, rfl⟩
set_option maxRecDepth 20000 in
theorem pf_X12_94 {q : Nat} : zPf RX12 94 12 46 true (.ref q) := ⟨_, tyX12, (.array .int), rfl, u_RX12, tyX12_ok, nmX12, by decide, (zGT_in zch6 239 rfl rfl), rfl, rfl, by decide +kernel, rfl, rfl⟩
set_option maxRecDepth 20000 in
theorem pf_X12_97 {q : Nat} : zPf RX12 97 12 47 true (.ref q) := ⟨_, tyX12, (.array .int), rfl, u_RX12, tyX12_ok, nmX12, by decide, (zGT_in zch7 0 rfl rfl), rfl, rfl, by decide +kernel, rfl, rfl⟩
set_option maxRecDepth 20000 in
theorem pf_X12_100 {q : Nat} : zPf RX12 100 12 48 true (.ref q) := ⟨_, tyX12, (.array .int), rfl, u_RX12, tyX12_ok, nmX12, by decide, (zGT_in zch7 1 rfl rfl), rfl, rfl, by decide +kernel, rfl, rfl⟩
set_option maxRecDepth 20000 in
theorem pf_X12_103 {q : Nat} : zPf RX12 103 12 49 true (.ref q) := ⟨_, tyX12, (.array .int), rfl, u_RX12, tyX12_ok, nmX12, by decide, (zGT_in zch7 2 rfl rfl), rfl, rfl, by decide +kernel, rfl, rfl⟩
set_option maxRecDepth 20000 in
theorem pf_X12_106 {q : Nat} : zPf RX12 106 12 50 true (.ref q) := ⟨_, tyX12, (.array .int), rfl, u_RX12, tyX12_ok, nmX12, by decide, (zGT_in zch7 3 rfl rfl), rfl, rfl, by decide +kernel, rfl, rfl⟩
set_option maxRecDepth 20000 in
theorem pf_X12_109 {q : Nat} : zPf RX12 109 12 51 true (.ref q) := ⟨_, tyX12, (.array .int), rfl, u_RX12, tyX12_ok, nmX12, by decide, (zGT_in zch7 4 rfl rfl), rfl, rfl, by decide +kernel, rfl, rfl⟩
set_option maxRecDepth 20000 in
theorem pf_X12_112 {q : Nat} : zPf RX12 112 12 53 true (.ref q) := ⟨_, tyX12, (.array .int), rfl, u_RX12, tyX12_ok, nmX12, by decide, (zGT_in zch7 6 rfl rfl), rfl, rfl, by decide +kernel, rfl, rfl⟩
set_option maxRecDepth 20000 in
theorem pf_X12_115 {q : Nat} : zPf RX12 115 12 54 true (.ref q) := ⟨_, tyX12, (.array .int), rfl, u_RX12, tyX12_ok, nmX12, by decide, (zGT_in zch7 7 rfl rfl), rfl, rfl, by decide +kernel, rfl, rfl⟩
set_option maxRecDepth 20000 in
theorem pf_X12_118 {q : Nat} : zPf RX12 118 12 55 true (.ref q) := ⟨_, tyX12, (.array .boolean), rfl, u_RX12, tyX12_ok, nmX12, by decide, (zGT_in zch7 8 rfl rfl), rfl, rfl, by decide +kernel, rfl, rfl⟩
set_option maxRecDepth 20000 in
theorem pf_X12_122 {q : Nat} : zPf RX12 122 12 56 true (.ref q) := ⟨_, tyX12, (.array .int), rfl, u_RX12, tyX12_ok, nmX12, by decide, (zGT_in zch7 9 rfl rfl), rfl, rfl, by decide +kernel, rfl, rfl⟩
set_option maxRecDepth 20000 in
theorem pf_X12_125 {q : Nat} : zPf RX12 125 12 58 true (.ref q) := ⟨_, tyX12, (.array .int), rfl, u_RX12, tyX12_ok, nmX12, by decide, (zGT_in zch7 11 rfl rfl), rfl, rfl, by decide +kernel, rfl, rfl⟩
set_option maxRecDepth 20000 in
theorem pf_X12_128 {q : Nat} : zPf RX12 128 12 63 true (.ref q) := ⟨_, tyX12, (.array .int), rfl, u_RX12, tyX12_ok, nmX12, by decide, (zGT_in zch7 16 rfl rfl), rfl, rfl, by decide +kernel, rfl, rfl⟩
set_option maxRecDepth 20000 in
theorem pf_X12_131 {q : Nat} : zPf RX12 131 12 64 true (.ref q) := ⟨_, tyX12, (.array .int), rfl, u_RX12, tyX12_ok, nmX12, by decide, (zGT_in zch7 17 rfl rfl), rfl, rfl, by decide +kernel, rfl, rfl⟩
set_option maxRecDepth 20000 in
theorem kc_RX12_134 : Cond.constant RX12 134 66000 ∈ zGT := (zGT_in zch6 192 rfl rfl)
set_option maxRecDepth 20000 in
theorem pf_X12_135 {q : Nat} : zPf RX12 135 12 66 true (.ref q) := ⟨_, tyX12, (.array .int), rfl, u_RX12, tyX12_ok, nmX12, by decide, (zGT_in zch7 19 rfl rfl), rfl, rfl, by decide +kernel, rfl, rfl⟩
set_option maxRecDepth 20000 in
theorem pf_X12_138 {q : Nat} : zPf RX12 138 12 69 true (.ref q) := ⟨_, tyX12, (.array .int), rfl, u_RX12, tyX12_ok, nmX12, by decide, (zGT_in zch7 22 rfl rfl), rfl, rfl, by decide +kernel, rfl, rfl⟩
set_option maxRecDepth 20000 in
theorem pf_X12_141 : zPf RX12 141 12 73 false (.int 4) := ⟨_, tyX12, .int, rfl, u_RX12, tyX12_ok, nmX12, by decide, (zGT_in zch7 26 rfl rfl), rfl, rfl, by decide +kernel, rfl, rfl⟩
set_option maxRecDepth 20000 in
theorem pf_X12_145 : zPf RX12 145 12 74 false (.int 2000) := ⟨_, tyX12, .int, rfl, u_RX12, tyX12_ok, nmX12, by decide, (zGT_in zch7 27 rfl rfl), rfl, rfl, by decide +kernel, rfl, rfl⟩
set_option maxRecDepth 20000 in
theorem pf_X12_148 : zPf RX12 148 12 75 false (.int 4) := ⟨_, tyX12, .int, rfl, u_RX12, tyX12_ok, nmX12, by decide, (zGT_in zch7 28 rfl rfl), rfl, rfl, by decide +kernel, rfl, rfl⟩
set_option maxRecDepth 20000 in
theorem pf_X12_151 : zPf RX12 151 12 76 false (.int 2000) := ⟨_, tyX12, .int, rfl, u_RX12, tyX12_ok, nmX12, by decide, (zGT_in zch7 29 rfl rfl), rfl, rfl, by decide +kernel, rfl, rfl⟩
set_option maxRecDepth 20000 in
theorem pf_X12_154 {q : Nat} : zPf RX12 154 12 82 true (.ref q) := ⟨_, tyX12, (.array .int), rfl, u_RX12, tyX12_ok, nmX12, by decide, (zGT_in zch7 35 rfl rfl), rfl, rfl, by decide +kernel, rfl, rfl⟩
set_option maxRecDepth 20000 in
theorem pf_X12_157 {q : Nat} : zPf RX12 157 12 84 true (.ref q) := ⟨_, tyX12, (.array .int), rfl, u_RX12, tyX12_ok, nmX12, by decide, (zGT_in zch7 37 rfl rfl), rfl, rfl, by decide +kernel, rfl, rfl⟩
set_option maxRecDepth 20000 in
theorem pf_X12_160 {q : Nat} : zPf RX12 160 12 87 true (.ref q) := ⟨_, tyX12, (.array .int), rfl, u_RX12, tyX12_ok, nmX12, by decide, (zGT_in zch7 40 rfl rfl), rfl, rfl, by decide +kernel, rfl, rfl⟩
set_option maxRecDepth 20000 in
theorem pf_X12_163 {q : Nat} : zPf RX12 163 12 89 true (.ref q) := ⟨_, tyX12, (.array .int), rfl, u_RX12, tyX12_ok, nmX12, by decide, (zGT_in zch7 42 rfl rfl), rfl, rfl, by decide +kernel, rfl, rfl⟩
set_option maxRecDepth 20000 in
theorem pf_X12_166 {q : Nat} : zPf RX12 166 12 90 true (.ref q) := ⟨_, tyX12, (.array .int), rfl, u_RX12, tyX12_ok, nmX12, by decide, (zGT_in zch7 43 rfl rfl), rfl, rfl, by decide +kernel, rfl, rfl⟩
set_option maxRecDepth 20000 in
theorem pf_X12_169 {q : Nat} : zPf RX12 169 12 91 true (.ref q) := ⟨_, tyX12, (.array .int), rfl, u_RX12, tyX12_ok, nmX12, by decide, (zGT_in zch7 44 rfl rfl), rfl, rfl, by decide +kernel, rfl, rfl⟩
set_option maxRecDepth 20000 in
theorem pf_X12_172 {q : Nat} : zPf RX12 172 12 92 true (.ref q) := ⟨_, tyX12, (.array .int), rfl, u_RX12, tyX12_ok, nmX12, by decide, (zGT_in zch7 45 rfl rfl), rfl, rfl, by decide +kernel, rfl, rfl⟩
set_option maxRecDepth 20000 in
theorem pf_X12_175 {q : Nat} : zPf RX12 175 12 93 true (.ref q) := ⟨_, tyX12, (.array .int), rfl, u_RX12, tyX12_ok, nmX12, by decide, (zGT_in zch7 46 rfl rfl), rfl, rfl, by decide +kernel, rfl, rfl⟩
set_option maxRecDepth 20000 in
theorem pf_X12_178 {q : Nat} : zPf RX12 178 12 95 true (.ref q) := ⟨_, tyX12, (.array .int), rfl, u_RX12, tyX12_ok, nmX12, by decide, (zGT_in zch7 48 rfl rfl), rfl, rfl, by decide +kernel, rfl, rfl⟩
set_option maxRecDepth 20000 in
theorem pf_X12_181 {q : Nat} : zPf RX12 181 12 96 true (.ref q) := ⟨_, tyX12, (.array .int), rfl, u_RX12, tyX12_ok, nmX12, by decide, (zGT_in zch7 49 rfl rfl), rfl, rfl, by decide +kernel, rfl, rfl⟩
set_option maxRecDepth 20000 in
theorem pf_X12_184 {q : Nat} : zPf RX12 184 12 99 true (.ref q) := ⟨_, tyX12, (.array .int), rfl, u_RX12, tyX12_ok, nmX12, by decide, (zGT_in zch7 52 rfl rfl), rfl, rfl, by decide +kernel, rfl, rfl⟩
set_option maxRecDepth 20000 in
theorem pf_X12_187 {q : Nat} : zPf RX12 187 12 102 true (.ref q) := ⟨_, tyX12, (.array .int), rfl, u_RX12, tyX12_ok, nmX12, by decide, (zGT_in zch7 55 rfl rfl), rfl, rfl, by decide +kernel, rfl, rfl⟩
set_option maxRecDepth 20000 in
theorem pf_X12_190 {q : Nat} : zPf RX12 190 12 103 true (.ref q) := ⟨_, tyX12, (.array .int), rfl, u_RX12, tyX12_ok, nmX12, by decide, (zGT_in zch7 56 rfl rfl), rfl, rfl, by decide +kernel, rfl, rfl⟩
set_option maxRecDepth 20000 in
theorem pf_X12_193 {q : Nat} : zPf RX12 193 12 104 true (.ref q) := ⟨_, tyX12, (.array .int), rfl, u_RX12, tyX12_ok, nmX12, by decide, (zGT_in zch7 57 rfl rfl), rfl, rfl, by decide +kernel, rfl, rfl⟩
set_option maxRecDepth 20000 in
theorem pf_X12_196 {q : Nat} : zPf RX12 196 12 106 true (.ref q) := ⟨_, tyX12, (.array .int), rfl, u_RX12, tyX12_ok, nmX12, by decide, (zGT_in zch7 59 rfl rfl), rfl, rfl, by decide +kernel, rfl, rfl⟩
set_option maxRecDepth 20000 in
theorem pf_X12_199 {q : Nat} : zPf RX12 199 12 108 true (.ref q) := ⟨_, tyX12, (.array .int), rfl, u_RX12, tyX12_ok, nmX12, by decide, (zGT_in zch7 61 rfl rfl), rfl, rfl, by decide +kernel, rfl, rfl⟩
set_option maxRecDepth 20000 in
theorem pf_X12_202 {q : Nat} : zPf RX12 202 12 109 true (.ref q) := ⟨_, tyX12, (.array .int), rfl, u_RX12, tyX12_ok, nmX12, by decide, (zGT_in zch7 62 rfl rfl), rfl, rfl, by decide +kernel, rfl, rfl⟩
