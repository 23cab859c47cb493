/-! the relation; OPEN here: zPr and the five calls that need it -/
/-- the program, as both hold it, and its run (to be written) -/
def zPr (t u : zS) : Prop := sorry
def zP (t u : zS) : Prop := zCnt t u ∧ zPr t u
def zRel (_ : Nat) (t u : zS) : Prop := zR4 zP t u
theorem zPr_0 : zPr (zcC zs0C) (zcM zs0M) := sorry
theorem st_program {t u : zS} (h : zR4 zP t u) : zStp zP (mX11_program t) (mX12_program u) := sorry
theorem st_start {t u : zS} (h : zR4 zP t u) : zStp zP (mX11_start t) (mX12_start u) := sorry
theorem st_run {t u : zS} (h : zR4 zP t u) (x : Int32) : zStp zP (mX11_run x t) (mX12_run x u) := sorry
theorem st_process {t u : zS} (h : zR4 zP t u) (x y z : Int32) : zStp zP (mX11_process x y z t) (mX12_process x y z u) := sorry
theorem st_types {t u : zS} (h : zR4 zP t u) (x y z : Int32) : zStp zP (mX11_types x y z t) (mX12_types x y z u) := sorry
theorem zRel_0 : zRel 0 zs0C zs0M := by
  refine ⟨⟨rfl, by decide, by decide, fun j hj => ?_⟩, ⟨rfl, rfl, by decide, by decide, by decide, by decide⟩, ⟨rfl, by decide, by decide, by decide, by decide, fun j hj => ?_⟩, ⟨⟨rfl, Or.inl rfl⟩, Or.inl ⟨rfl, rfl, rfl, rfl, rfl, rfl, rfl, rfl, rfl, rfl⟩⟩, zPr_0⟩
  · have : (zs0C 0 6).toInt = 0 := by decide
    omega
  · have : (zs0C 7 9).toInt = 0 := by decide
    omega
theorem zRel_step (n : Nat) (t u : zS) (op a b c d e : Int32) (hn : n < 512) (h : zRel n t u) : ∃ (r : Int32) (t2 u2 : zS), zkC op a b c d e t = some (r, t2) ∧ zkM op a b c d e u = some (r, u2) ∧ zRel (n + 1) t2 u2 := by
  have h : zR4 zP t u := h
  have hC : zCnt t u := zCnt_of h.2.2.2.1
  by_cases h0 : op = 0
  · subst h0; rw [zkC_0, zkM_0]; exact st_feed h a b c d e
  by_cases h1 : op = 1
  · subst h1; rw [zkC_1, zkM_1]; exact st_end h a
  by_cases h2 : op = 2
  · subst h2; rw [zkC_2, zkM_2]; exact st_program h
  by_cases h3 : op = 3
  · subst h3; rw [zkC_3, zkM_3]; exact st_sizes h a b
  by_cases h4 : op = 4
  · subst h4; rw [zkC_4, zkM_4]; exact st_input h a b c
  by_cases h5 : op = 5
  · subst h5; rw [zkC_5, zkM_5]; exact st_start h
  by_cases h6 : op = 6
  · subst h6; rw [zkC_6, zkM_6]; exact st_run h a
  by_cases h7 : op = 7
  · subst h7; rw [zkC_7, zkM_7]; exact st_output h hC a
  by_cases h8 : op = 8
  · subst h8; rw [zkC_8, zkM_8]; exact st_count h hC a
  by_cases h9 : op = 9
  · subst h9; rw [zkC_9, zkM_9]; exact st_process h a b c
  by_cases h10 : op = 10
  · subst h10; rw [zkC_10, zkM_10]; exact st_types h a b c
  rw [zkC, if_neg h0, if_neg h1, if_neg h2, if_neg h3, if_neg h4, if_neg h5, if_neg h6, if_neg h7, if_neg h8, if_neg h9, if_neg h10, zkM, if_neg h0, if_neg h1, if_neg h2, if_neg h3, if_neg h4, if_neg h5, if_neg h6, if_neg h7, if_neg h8, if_neg h9, if_neg h10]
  exact ⟨_, _, _, rfl, rfl, h⟩
