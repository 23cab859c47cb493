/-! the two String constants; the rows of this part are OPEN (sorry) until the JDK's own methods are walked -/
def zsb (w : Nat) : List Int32 := if w = 0 then [116, 121, 112, 101, 32, 112, 114, 111, 99, 32, 115, 101, 110, 100, 32, 114, 101, 99, 118, 32, 112, 97, 115, 115, 32, 116, 97, 107, 101, 32, 112, 105, 99, 107, 32, 99, 97, 115, 101, 32, 115, 112, 97, 119, 110, 32, 98, 101, 99, 111, 109, 101, 32, 105, 102, 32, 101, 108, 115, 101, 32, 119, 104, 105, 108, 101, 32, 112, 117, 116, 32, 103, 101, 116, 32, 105, 110, 116, 32, 101, 110, 100, 32, 109, 97, 105, 110, 32] else [59, 61, 40, 41, 123, 125, 44, 58, 33, 63, 43, 38, 126, 45, 42, 47, 37, 60]
def zsixF (c : Int32) : List Int32 → Nat → Int32
  | [], _ => -1
  | b :: l, k => if b = c then Int32.ofNat k else zsixF c l (k + 1)
/-- String.indexOf -/
def zsix (w : Nat) (c : Int32) : Int32 := zsixF c (zsb w) 0
def zsc (w : Nat) (i : Int32) (k : Int32 → zR) : zR := if 0 ≤ i ∧ i.toNatClampNeg < (zsb w).length then k ((zsb w).getD i.toNatClampNeg 0) else none
theorem zsc_at {w : Nat} {i : Int32} {k : Int32 → zR} {ro : Int32 × zS} (h : zsc w i k = some ro) : zin i (zsb w).length ∧ k ((zsb w).getD i.toNatClampNeg 0) = some ro := by
  unfold zsc at h
  by_cases q : 0 ≤ i ∧ i.toNatClampNeg < (zsb w).length
  · rw [if_pos q] at h; exact ⟨q, h⟩
  · rw [if_neg q] at h; cases h
/-- q is the address of the String constant w (placeholder until the String part is written) -/
def zSt (E : zE) (sh : zSh) (C : zC) (w q : Nat) : Prop := E.2.2.2.2 C.2.2.1.heap ∧ w < 2 ∧ ¬ zA E.2.2.2.1 sh q
section ZSTR
variable {E : zE} {sh : zSh} {C : zC} {cc : ByteArray} {own : String} {nL f : Nat} {ret : Option FieldType} {ro : Int32 × zS} {t : zS} {pc : Nat} {lv : List (Nat × Value)} {rest : List Value}
theorem z_ldcS {idx : Nat} (w : Nat) (hd : decode cc pc = .ok (.ldc idx, 2)) (kk : ∀ q : Nat, zSt E sh C w q → zJ E sh C cc own nL f ret ro t (pc + 2) lv (.ref q :: rest)) : zJ E sh C cc own nL f ret ro t pc lv rest := by
  sorry
theorem z_slen {idx w q : Nat} {v : Int32} (hq : zSt E sh C w q) (hv : Int32.ofNat (zsb w).length = v) (hf : 5 ≤ f) (hd : decode cc pc = .ok (.invokevirtual idx, 3)) (kk : zJ E sh C cc own nL f ret ro t (pc + 3) lv (.int v :: rest)) : zJ E sh C cc own nL f ret ro t pc lv (.ref q :: rest) := by
  sorry
theorem z_schar {idx w q : Nat} {i : Int32} (hq : zSt E sh C w q) (hi : zin i (zsb w).length) (hf : 5 ≤ f) (hd : decode cc pc = .ok (.invokevirtual idx, 3)) (kk : zJ E sh C cc own nL f ret ro t (pc + 3) lv (.int ((zsb w).getD i.toNatClampNeg 0) :: rest)) : zJ E sh C cc own nL f ret ro t pc lv (.int i :: .ref q :: rest) := by
  sorry
theorem z_sindex {idx w q : Nat} {x : Int32} (hq : zSt E sh C w q) (hf : 5 ≤ f) (hd : decode cc pc = .ok (.invokevirtual idx, 3)) (kk : zJ E sh C cc own nL f ret ro t (pc + 3) lv (.int (zsix w x) :: rest)) : zJ E sh C cc own nL f ret ro t pc lv (.int x :: .ref q :: rest) := by
  sorry
end ZSTR
