/-! the reference: known words, and the number of a NAME -/
theorem pl_txt2 {u : zS} {p l : Nat} {x1 x2 x3 x4 x5 x6 : Int32} (h6 : u 0 6 = Int32.ofNat p) (h7 : u 0 7 = Int32.ofNat l) (hb : p + l ≤ 3000) : bX12_isText_37 x1 x2 x3 x4 x5 x6 2 u = some ((if l = 2 ∧ zls (u 2) [x1, x2] p = true then 1 else 0), u) := by
  have hz : zls (u 2) [x1, x2] p = true ↔ u 2 p = x1 ∧ u 2 (p + 1) = x2 := by
    simp only [zls, Bool.and_true, Bool.and_eq_true, decide_eq_true_iff]
  unfold bX12_isText_37
  rw [h7, h6]
  by_cases c : l = 2
  · subst c
    rw [if_pos (show Int32.ofNat 2 = 2 from rfl), pl_let, zn_rd (by omega) (by decide)]
    have k1 : Int32.ofNat p + 1 = Int32.ofNat (p + 1) := zn_1 p
    have k2 : Int32.ofNat p + 2 = Int32.ofNat (p + 2) := zn_add p 2
    have k3 : Int32.ofNat p + 3 = Int32.ofNat (p + 3) := zn_add p 3
    have k4 : Int32.ofNat p + 4 = Int32.ofNat (p + 4) := zn_add p 4
    have k5 : Int32.ofNat p + 5 = Int32.ofNat (p + 5) := zn_add p 5
    by_cases c0 : u 2 p = x1
    · rw [if_pos c0, k1, zn_rd (by omega) (by decide)]
      by_cases c1 : u 2 (p + 1) = x2
      · rw [if_pos c1]
        rw [if_pos (by decide)]
        unfold bX12_isText_99
        rw [if_pos (by decide)]
        unfold bX12_isText_119
        rw [if_pos (by decide)]
        unfold bX12_isText_139
        rw [if_pos (by decide)]
        unfold bX12_isText_160
        rw [if_pos ⟨rfl, hz.mpr ⟨c0, c1⟩⟩]
      · rw [if_neg c1, if_neg (fun w => c1 (hz.mp w.2).2)]
    · rw [if_neg c0, if_neg (fun w => c0 (hz.mp w.2).1)]
  · rw [if_neg (show ¬ Int32.ofNat l = (2 : Int32) from fun w => c ((zn_inj (a := l) (b := 2) (by omega) (by decide)).mp w)), if_neg (fun w => c w.1)]
theorem pl_txt3 {u : zS} {p l : Nat} {x1 x2 x3 x4 x5 x6 : Int32} (h6 : u 0 6 = Int32.ofNat p) (h7 : u 0 7 = Int32.ofNat l) (hb : p + l ≤ 3000) : bX12_isText_37 x1 x2 x3 x4 x5 x6 3 u = some ((if l = 3 ∧ zls (u 2) [x1, x2, x3] p = true then 1 else 0), u) := by
  have hz : zls (u 2) [x1, x2, x3] p = true ↔ u 2 p = x1 ∧ u 2 (p + 1) = x2 ∧ u 2 (p + 2) = x3 := by
    simp only [zls, Bool.and_true, Bool.and_eq_true, decide_eq_true_iff]
  unfold bX12_isText_37
  rw [h7, h6]
  by_cases c : l = 3
  · subst c
    rw [if_pos (show Int32.ofNat 3 = 3 from rfl), pl_let, zn_rd (by omega) (by decide)]
    have k1 : Int32.ofNat p + 1 = Int32.ofNat (p + 1) := zn_1 p
    have k2 : Int32.ofNat p + 2 = Int32.ofNat (p + 2) := zn_add p 2
    have k3 : Int32.ofNat p + 3 = Int32.ofNat (p + 3) := zn_add p 3
    have k4 : Int32.ofNat p + 4 = Int32.ofNat (p + 4) := zn_add p 4
    have k5 : Int32.ofNat p + 5 = Int32.ofNat (p + 5) := zn_add p 5
    by_cases c0 : u 2 p = x1
    · rw [if_pos c0, k1, zn_rd (by omega) (by decide)]
      by_cases c1 : u 2 (p + 1) = x2
      · rw [if_pos c1]
        rw [if_neg (by decide), k2, zn_rd (by omega) (by decide)]
        by_cases c2 : u 2 (p + 2) = x3
        · rw [if_pos c2]
          unfold bX12_isText_99
          rw [if_pos (by decide)]
          unfold bX12_isText_119
          rw [if_pos (by decide)]
          unfold bX12_isText_139
          rw [if_pos (by decide)]
          unfold bX12_isText_160
          rw [if_pos ⟨rfl, hz.mpr ⟨c0, c1, c2⟩⟩]
        · rw [if_neg c2, if_neg (fun w => c2 (hz.mp w.2).2.2)]
      · rw [if_neg c1, if_neg (fun w => c1 (hz.mp w.2).2.1)]
    · rw [if_neg c0, if_neg (fun w => c0 (hz.mp w.2).1)]
  · rw [if_neg (show ¬ Int32.ofNat l = (3 : Int32) from fun w => c ((zn_inj (a := l) (b := 3) (by omega) (by decide)).mp w)), if_neg (fun w => c w.1)]
theorem pl_txt4 {u : zS} {p l : Nat} {x1 x2 x3 x4 x5 x6 : Int32} (h6 : u 0 6 = Int32.ofNat p) (h7 : u 0 7 = Int32.ofNat l) (hb : p + l ≤ 3000) : bX12_isText_37 x1 x2 x3 x4 x5 x6 4 u = some ((if l = 4 ∧ zls (u 2) [x1, x2, x3, x4] p = true then 1 else 0), u) := by
  have hz : zls (u 2) [x1, x2, x3, x4] p = true ↔ u 2 p = x1 ∧ u 2 (p + 1) = x2 ∧ u 2 (p + 2) = x3 ∧ u 2 (p + 3) = x4 := by
    simp only [zls, Bool.and_true, Bool.and_eq_true, decide_eq_true_iff]
  unfold bX12_isText_37
  rw [h7, h6]
  by_cases c : l = 4
  · subst c
    rw [if_pos (show Int32.ofNat 4 = 4 from rfl), pl_let, zn_rd (by omega) (by decide)]
    have k1 : Int32.ofNat p + 1 = Int32.ofNat (p + 1) := zn_1 p
    have k2 : Int32.ofNat p + 2 = Int32.ofNat (p + 2) := zn_add p 2
    have k3 : Int32.ofNat p + 3 = Int32.ofNat (p + 3) := zn_add p 3
    have k4 : Int32.ofNat p + 4 = Int32.ofNat (p + 4) := zn_add p 4
    have k5 : Int32.ofNat p + 5 = Int32.ofNat (p + 5) := zn_add p 5
    by_cases c0 : u 2 p = x1
    · rw [if_pos c0, k1, zn_rd (by omega) (by decide)]
      by_cases c1 : u 2 (p + 1) = x2
      · rw [if_pos c1]
        rw [if_neg (by decide), k2, zn_rd (by omega) (by decide)]
        by_cases c2 : u 2 (p + 2) = x3
        · rw [if_pos c2]
          unfold bX12_isText_99
          rw [if_neg (by decide), k3, zn_rd (by omega) (by decide)]
          by_cases c3 : u 2 (p + 3) = x4
          · rw [if_pos c3]
            unfold bX12_isText_119
            rw [if_pos (by decide)]
            unfold bX12_isText_139
            rw [if_pos (by decide)]
            unfold bX12_isText_160
            rw [if_pos ⟨rfl, hz.mpr ⟨c0, c1, c2, c3⟩⟩]
          · rw [if_neg c3, if_neg (fun w => c3 (hz.mp w.2).2.2.2)]
        · rw [if_neg c2, if_neg (fun w => c2 (hz.mp w.2).2.2.1)]
      · rw [if_neg c1, if_neg (fun w => c1 (hz.mp w.2).2.1)]
    · rw [if_neg c0, if_neg (fun w => c0 (hz.mp w.2).1)]
  · rw [if_neg (show ¬ Int32.ofNat l = (4 : Int32) from fun w => c ((zn_inj (a := l) (b := 4) (by omega) (by decide)).mp w)), if_neg (fun w => c w.1)]
theorem pl_txt5 {u : zS} {p l : Nat} {x1 x2 x3 x4 x5 x6 : Int32} (h6 : u 0 6 = Int32.ofNat p) (h7 : u 0 7 = Int32.ofNat l) (hb : p + l ≤ 3000) : bX12_isText_37 x1 x2 x3 x4 x5 x6 5 u = some ((if l = 5 ∧ zls (u 2) [x1, x2, x3, x4, x5] p = true then 1 else 0), u) := by
  have hz : zls (u 2) [x1, x2, x3, x4, x5] p = true ↔ u 2 p = x1 ∧ u 2 (p + 1) = x2 ∧ u 2 (p + 2) = x3 ∧ u 2 (p + 3) = x4 ∧ u 2 (p + 4) = x5 := by
    simp only [zls, Bool.and_true, Bool.and_eq_true, decide_eq_true_iff]
  unfold bX12_isText_37
  rw [h7, h6]
  by_cases c : l = 5
  · subst c
    rw [if_pos (show Int32.ofNat 5 = 5 from rfl), pl_let, zn_rd (by omega) (by decide)]
    have k1 : Int32.ofNat p + 1 = Int32.ofNat (p + 1) := zn_1 p
    have k2 : Int32.ofNat p + 2 = Int32.ofNat (p + 2) := zn_add p 2
    have k3 : Int32.ofNat p + 3 = Int32.ofNat (p + 3) := zn_add p 3
    have k4 : Int32.ofNat p + 4 = Int32.ofNat (p + 4) := zn_add p 4
    have k5 : Int32.ofNat p + 5 = Int32.ofNat (p + 5) := zn_add p 5
    by_cases c0 : u 2 p = x1
    · rw [if_pos c0, k1, zn_rd (by omega) (by decide)]
      by_cases c1 : u 2 (p + 1) = x2
      · rw [if_pos c1]
        rw [if_neg (by decide), k2, zn_rd (by omega) (by decide)]
        by_cases c2 : u 2 (p + 2) = x3
        · rw [if_pos c2]
          unfold bX12_isText_99
          rw [if_neg (by decide), k3, zn_rd (by omega) (by decide)]
          by_cases c3 : u 2 (p + 3) = x4
          · rw [if_pos c3]
            unfold bX12_isText_119
            rw [if_neg (by decide), k4, zn_rd (by omega) (by decide)]
            by_cases c4 : u 2 (p + 4) = x5
            · rw [if_pos c4]
              unfold bX12_isText_139
              rw [if_pos (by decide)]
              unfold bX12_isText_160
              rw [if_pos ⟨rfl, hz.mpr ⟨c0, c1, c2, c3, c4⟩⟩]
            · rw [if_neg c4, if_neg (fun w => c4 (hz.mp w.2).2.2.2.2)]
          · rw [if_neg c3, if_neg (fun w => c3 (hz.mp w.2).2.2.2.1)]
        · rw [if_neg c2, if_neg (fun w => c2 (hz.mp w.2).2.2.1)]
      · rw [if_neg c1, if_neg (fun w => c1 (hz.mp w.2).2.1)]
    · rw [if_neg c0, if_neg (fun w => c0 (hz.mp w.2).1)]
  · rw [if_neg (show ¬ Int32.ofNat l = (5 : Int32) from fun w => c ((zn_inj (a := l) (b := 5) (by omega) (by decide)).mp w)), if_neg (fun w => c w.1)]
theorem pl_txt6 {u : zS} {p l : Nat} {x1 x2 x3 x4 x5 x6 : Int32} (h6 : u 0 6 = Int32.ofNat p) (h7 : u 0 7 = Int32.ofNat l) (hb : p + l ≤ 3000) : bX12_isText_37 x1 x2 x3 x4 x5 x6 6 u = some ((if l = 6 ∧ zls (u 2) [x1, x2, x3, x4, x5, x6] p = true then 1 else 0), u) := by
  have hz : zls (u 2) [x1, x2, x3, x4, x5, x6] p = true ↔ u 2 p = x1 ∧ u 2 (p + 1) = x2 ∧ u 2 (p + 2) = x3 ∧ u 2 (p + 3) = x4 ∧ u 2 (p + 4) = x5 ∧ u 2 (p + 5) = x6 := by
    simp only [zls, Bool.and_true, Bool.and_eq_true, decide_eq_true_iff]
  unfold bX12_isText_37
  rw [h7, h6]
  by_cases c : l = 6
  · subst c
    rw [if_pos (show Int32.ofNat 6 = 6 from rfl), pl_let, zn_rd (by omega) (by decide)]
    have k1 : Int32.ofNat p + 1 = Int32.ofNat (p + 1) := zn_1 p
    have k2 : Int32.ofNat p + 2 = Int32.ofNat (p + 2) := zn_add p 2
    have k3 : Int32.ofNat p + 3 = Int32.ofNat (p + 3) := zn_add p 3
    have k4 : Int32.ofNat p + 4 = Int32.ofNat (p + 4) := zn_add p 4
    have k5 : Int32.ofNat p + 5 = Int32.ofNat (p + 5) := zn_add p 5
    by_cases c0 : u 2 p = x1
    · rw [if_pos c0, k1, zn_rd (by omega) (by decide)]
      by_cases c1 : u 2 (p + 1) = x2
      · rw [if_pos c1]
        rw [if_neg (by decide), k2, zn_rd (by omega) (by decide)]
        by_cases c2 : u 2 (p + 2) = x3
        · rw [if_pos c2]
          unfold bX12_isText_99
          rw [if_neg (by decide), k3, zn_rd (by omega) (by decide)]
          by_cases c3 : u 2 (p + 3) = x4
          · rw [if_pos c3]
            unfold bX12_isText_119
            rw [if_neg (by decide), k4, zn_rd (by omega) (by decide)]
            by_cases c4 : u 2 (p + 4) = x5
            · rw [if_pos c4]
              unfold bX12_isText_139
              rw [if_neg (by decide), k5, zn_rd (by omega) (by decide)]
              by_cases c5 : u 2 (p + 5) = x6
              · rw [if_pos c5]
                unfold bX12_isText_160
                rw [if_pos ⟨rfl, hz.mpr ⟨c0, c1, c2, c3, c4, c5⟩⟩]
              · rw [if_neg c5, if_neg (fun w => c5 (hz.mp w.2).2.2.2.2.2)]
            · rw [if_neg c4, if_neg (fun w => c4 (hz.mp w.2).2.2.2.2.1)]
          · rw [if_neg c3, if_neg (fun w => c3 (hz.mp w.2).2.2.2.1)]
        · rw [if_neg c2, if_neg (fun w => c2 (hz.mp w.2).2.2.1)]
      · rw [if_neg c1, if_neg (fun w => c1 (hz.mp w.2).2.1)]
    · rw [if_neg c0, if_neg (fun w => c0 (hz.mp w.2).1)]
  · rw [if_neg (show ¬ Int32.ofNat l = (6 : Int32) from fun w => c ((zn_inj (a := l) (b := 6) (by omega) (by decide)).mp w)), if_neg (fun w => c w.1)]
theorem pl_keyOf {g : Nat → Int32} {n m i : Nat} {V : Nat → Nat} {u : zS} (W : zWf g n m V) (hn : n ≤ 3000) (h2 : u 2 = g) (hi : i < m) (hl : zltb (g (zpos g n i)) = true) (h6 : u 0 6 = Int32.ofNat (zpos g n i)) (h7 : u 0 7 = Int32.ofNat (zend g n (zpos g n i) - zpos g n i)) : mX12_keyOf u = some (Int32.ofNat (if V i < 17 then V i + 1 else 0), u) := by
  have hp := (W.2.2.1 i hi).1
  have hz := zend_lt (g := g) hp
  have hb : zpos g n i + (zend g n (zpos g n i) - zpos g n i) ≤ 3000 := by omega
  have kn : ∀ k, k < 17 → ((zend g n (zpos g n i) - zpos g n i = (zkwl k).length ∧ zls (u 2) (zkwl k) (zpos g n i) = true) ↔ V i = k) := fun k hk => by rw [h2]; exact (zKn_iff (by omega)).symm.trans (W.2.2.2.2 i k hi (by omega) hl).symm
  have T0 : mX12_isText 116 121 112 101 0 0 u = some ((if V i = 0 then 1 else 0), u) := by
    unfold mX12_isText
    rw [if_neg (by decide), if_pos rfl, pl_txt4 h6 h7 hb]
    have this : (zend g n (zpos g n i) - zpos g n i = 4 ∧ zls (u 2) [116, 121, 112, 101] (zpos g n i) = true) ↔ V i = 0 := kn 0 (by decide)
    by_cases c : V i = 0
    · rw [if_pos (this.mpr c), if_pos c]
    · rw [if_neg (fun w => c (this.mp w)), if_neg c]
  have T1 : mX12_isText 112 114 111 99 0 0 u = some ((if V i = 1 then 1 else 0), u) := by
    unfold mX12_isText
    rw [if_neg (by decide), if_pos rfl, pl_txt4 h6 h7 hb]
    have this : (zend g n (zpos g n i) - zpos g n i = 4 ∧ zls (u 2) [112, 114, 111, 99] (zpos g n i) = true) ↔ V i = 1 := kn 1 (by decide)
    by_cases c : V i = 1
    · rw [if_pos (this.mpr c), if_pos c]
    · rw [if_neg (fun w => c (this.mp w)), if_neg c]
  have T2 : mX12_isText 115 101 110 100 0 0 u = some ((if V i = 2 then 1 else 0), u) := by
    unfold mX12_isText
    rw [if_neg (by decide), if_pos rfl, pl_txt4 h6 h7 hb]
    have this : (zend g n (zpos g n i) - zpos g n i = 4 ∧ zls (u 2) [115, 101, 110, 100] (zpos g n i) = true) ↔ V i = 2 := kn 2 (by decide)
    by_cases c : V i = 2
    · rw [if_pos (this.mpr c), if_pos c]
    · rw [if_neg (fun w => c (this.mp w)), if_neg c]
  have T3 : mX12_isText 114 101 99 118 0 0 u = some ((if V i = 3 then 1 else 0), u) := by
    unfold mX12_isText
    rw [if_neg (by decide), if_pos rfl, pl_txt4 h6 h7 hb]
    have this : (zend g n (zpos g n i) - zpos g n i = 4 ∧ zls (u 2) [114, 101, 99, 118] (zpos g n i) = true) ↔ V i = 3 := kn 3 (by decide)
    by_cases c : V i = 3
    · rw [if_pos (this.mpr c), if_pos c]
    · rw [if_neg (fun w => c (this.mp w)), if_neg c]
  have T4 : mX12_isText 112 97 115 115 0 0 u = some ((if V i = 4 then 1 else 0), u) := by
    unfold mX12_isText
    rw [if_neg (by decide), if_pos rfl, pl_txt4 h6 h7 hb]
    have this : (zend g n (zpos g n i) - zpos g n i = 4 ∧ zls (u 2) [112, 97, 115, 115] (zpos g n i) = true) ↔ V i = 4 := kn 4 (by decide)
    by_cases c : V i = 4
    · rw [if_pos (this.mpr c), if_pos c]
    · rw [if_neg (fun w => c (this.mp w)), if_neg c]
  have T5 : mX12_isText 116 97 107 101 0 0 u = some ((if V i = 5 then 1 else 0), u) := by
    unfold mX12_isText
    rw [if_neg (by decide), if_pos rfl, pl_txt4 h6 h7 hb]
    have this : (zend g n (zpos g n i) - zpos g n i = 4 ∧ zls (u 2) [116, 97, 107, 101] (zpos g n i) = true) ↔ V i = 5 := kn 5 (by decide)
    by_cases c : V i = 5
    · rw [if_pos (this.mpr c), if_pos c]
    · rw [if_neg (fun w => c (this.mp w)), if_neg c]
  have T6 : mX12_isText 112 105 99 107 0 0 u = some ((if V i = 6 then 1 else 0), u) := by
    unfold mX12_isText
    rw [if_neg (by decide), if_pos rfl, pl_txt4 h6 h7 hb]
    have this : (zend g n (zpos g n i) - zpos g n i = 4 ∧ zls (u 2) [112, 105, 99, 107] (zpos g n i) = true) ↔ V i = 6 := kn 6 (by decide)
    by_cases c : V i = 6
    · rw [if_pos (this.mpr c), if_pos c]
    · rw [if_neg (fun w => c (this.mp w)), if_neg c]
  have T7 : mX12_isText 99 97 115 101 0 0 u = some ((if V i = 7 then 1 else 0), u) := by
    unfold mX12_isText
    rw [if_neg (by decide), if_pos rfl, pl_txt4 h6 h7 hb]
    have this : (zend g n (zpos g n i) - zpos g n i = 4 ∧ zls (u 2) [99, 97, 115, 101] (zpos g n i) = true) ↔ V i = 7 := kn 7 (by decide)
    by_cases c : V i = 7
    · rw [if_pos (this.mpr c), if_pos c]
    · rw [if_neg (fun w => c (this.mp w)), if_neg c]
  have T8 : mX12_isText 115 112 97 119 110 0 u = some ((if V i = 8 then 1 else 0), u) := by
    unfold mX12_isText
    rw [if_neg (by decide), if_neg (by decide), if_pos rfl, pl_txt5 h6 h7 hb]
    have this : (zend g n (zpos g n i) - zpos g n i = 5 ∧ zls (u 2) [115, 112, 97, 119, 110] (zpos g n i) = true) ↔ V i = 8 := kn 8 (by decide)
    by_cases c : V i = 8
    · rw [if_pos (this.mpr c), if_pos c]
    · rw [if_neg (fun w => c (this.mp w)), if_neg c]
  have T9 : mX12_isText 98 101 99 111 109 101 u = some ((if V i = 9 then 1 else 0), u) := by
    unfold mX12_isText
    rw [if_neg (by decide), if_neg (by decide), if_neg (by decide), pl_txt6 h6 h7 hb]
    have this : (zend g n (zpos g n i) - zpos g n i = 6 ∧ zls (u 2) [98, 101, 99, 111, 109, 101] (zpos g n i) = true) ↔ V i = 9 := kn 9 (by decide)
    by_cases c : V i = 9
    · rw [if_pos (this.mpr c), if_pos c]
    · rw [if_neg (fun w => c (this.mp w)), if_neg c]
  have T10 : mX12_isText 105 102 0 0 0 0 u = some ((if V i = 10 then 1 else 0), u) := by
    unfold mX12_isText
    rw [if_pos rfl, if_pos rfl, pl_txt2 h6 h7 hb]
    have this : (zend g n (zpos g n i) - zpos g n i = 2 ∧ zls (u 2) [105, 102] (zpos g n i) = true) ↔ V i = 10 := kn 10 (by decide)
    by_cases c : V i = 10
    · rw [if_pos (this.mpr c), if_pos c]
    · rw [if_neg (fun w => c (this.mp w)), if_neg c]
  have T11 : mX12_isText 101 108 115 101 0 0 u = some ((if V i = 11 then 1 else 0), u) := by
    unfold mX12_isText
    rw [if_neg (by decide), if_pos rfl, pl_txt4 h6 h7 hb]
    have this : (zend g n (zpos g n i) - zpos g n i = 4 ∧ zls (u 2) [101, 108, 115, 101] (zpos g n i) = true) ↔ V i = 11 := kn 11 (by decide)
    by_cases c : V i = 11
    · rw [if_pos (this.mpr c), if_pos c]
    · rw [if_neg (fun w => c (this.mp w)), if_neg c]
  have T12 : mX12_isText 119 104 105 108 101 0 u = some ((if V i = 12 then 1 else 0), u) := by
    unfold mX12_isText
    rw [if_neg (by decide), if_neg (by decide), if_pos rfl, pl_txt5 h6 h7 hb]
    have this : (zend g n (zpos g n i) - zpos g n i = 5 ∧ zls (u 2) [119, 104, 105, 108, 101] (zpos g n i) = true) ↔ V i = 12 := kn 12 (by decide)
    by_cases c : V i = 12
    · rw [if_pos (this.mpr c), if_pos c]
    · rw [if_neg (fun w => c (this.mp w)), if_neg c]
  have T13 : mX12_isText 112 117 116 0 0 0 u = some ((if V i = 13 then 1 else 0), u) := by
    unfold mX12_isText
    rw [if_pos rfl, if_neg (by decide), pl_txt3 h6 h7 hb]
    have this : (zend g n (zpos g n i) - zpos g n i = 3 ∧ zls (u 2) [112, 117, 116] (zpos g n i) = true) ↔ V i = 13 := kn 13 (by decide)
    by_cases c : V i = 13
    · rw [if_pos (this.mpr c), if_pos c]
    · rw [if_neg (fun w => c (this.mp w)), if_neg c]
  have T14 : mX12_isText 103 101 116 0 0 0 u = some ((if V i = 14 then 1 else 0), u) := by
    unfold mX12_isText
    rw [if_pos rfl, if_neg (by decide), pl_txt3 h6 h7 hb]
    have this : (zend g n (zpos g n i) - zpos g n i = 3 ∧ zls (u 2) [103, 101, 116] (zpos g n i) = true) ↔ V i = 14 := kn 14 (by decide)
    by_cases c : V i = 14
    · rw [if_pos (this.mpr c), if_pos c]
    · rw [if_neg (fun w => c (this.mp w)), if_neg c]
  have T15 : mX12_isText 105 110 116 0 0 0 u = some ((if V i = 15 then 1 else 0), u) := by
    unfold mX12_isText
    rw [if_pos rfl, if_neg (by decide), pl_txt3 h6 h7 hb]
    have this : (zend g n (zpos g n i) - zpos g n i = 3 ∧ zls (u 2) [105, 110, 116] (zpos g n i) = true) ↔ V i = 15 := kn 15 (by decide)
    by_cases c : V i = 15
    · rw [if_pos (this.mpr c), if_pos c]
    · rw [if_neg (fun w => c (this.mp w)), if_neg c]
  have T16 : mX12_isText 101 110 100 0 0 0 u = some ((if V i = 16 then 1 else 0), u) := by
    unfold mX12_isText
    rw [if_pos rfl, if_neg (by decide), pl_txt3 h6 h7 hb]
    have this : (zend g n (zpos g n i) - zpos g n i = 3 ∧ zls (u 2) [101, 110, 100] (zpos g n i) = true) ↔ V i = 16 := kn 16 (by decide)
    by_cases c : V i = 16
    · rw [if_pos (this.mpr c), if_pos c]
    · rw [if_neg (fun w => c (this.mp w)), if_neg c]
  unfold mX12_keyOf
  rw [T0, pl_bd]
  by_cases c0 : V i = 0
  · rw [if_pos c0, if_neg pl_10, c0]; rfl
  rw [if_neg c0, if_pos rfl]
  rw [T1, pl_bd]
  by_cases c1 : V i = 1
  · rw [if_pos c1, if_neg pl_10, c1]; rfl
  rw [if_neg c1, if_pos rfl]
  rw [T2, pl_bd]
  by_cases c2 : V i = 2
  · rw [if_pos c2, if_neg pl_10, c2]; rfl
  rw [if_neg c2, if_pos rfl]
  rw [T3, pl_bd]
  by_cases c3 : V i = 3
  · rw [if_pos c3, if_neg pl_10, c3]; rfl
  rw [if_neg c3, if_pos rfl]
  rw [T4, pl_bd]
  by_cases c4 : V i = 4
  · rw [if_pos c4, if_neg pl_10, c4]; rfl
  rw [if_neg c4, if_pos rfl]
  rw [T5, pl_bd]
  by_cases c5 : V i = 5
  · rw [if_pos c5, if_neg pl_10, c5]; rfl
  rw [if_neg c5, if_pos rfl]
  rw [T6, pl_bd]
  by_cases c6 : V i = 6
  · rw [if_pos c6, if_neg pl_10, c6]; rfl
  rw [if_neg c6, if_pos rfl]
  rw [T7, pl_bd]
  by_cases c7 : V i = 7
  · rw [if_pos c7, if_neg pl_10, c7]; rfl
  rw [if_neg c7, if_pos rfl]
  rw [T8, pl_bd]
  by_cases c8 : V i = 8
  · rw [if_pos c8, if_neg pl_10, c8]; rfl
  rw [if_neg c8, if_pos rfl]
  rw [T9, pl_bd]
  by_cases c9 : V i = 9
  · rw [if_pos c9, if_neg pl_10, c9]; rfl
  rw [if_neg c9, if_pos rfl]
  rw [T10, pl_bd]
  by_cases c10 : V i = 10
  · rw [if_pos c10, if_neg pl_10, c10]; rfl
  rw [if_neg c10, if_pos rfl]
  rw [T11, pl_bd]
  by_cases c11 : V i = 11
  · rw [if_pos c11, if_neg pl_10, c11]; rfl
  rw [if_neg c11, if_pos rfl]
  rw [T12, pl_bd]
  by_cases c12 : V i = 12
  · rw [if_pos c12, if_neg pl_10, c12]; rfl
  rw [if_neg c12, if_pos rfl]
  rw [T13, pl_bd]
  by_cases c13 : V i = 13
  · rw [if_pos c13, if_neg pl_10, c13]; rfl
  rw [if_neg c13, if_pos rfl]
  rw [T14, pl_bd]
  by_cases c14 : V i = 14
  · rw [if_pos c14, if_neg pl_10, c14]; rfl
  rw [if_neg c14, if_pos rfl]
  rw [T15, pl_bd]
  by_cases c15 : V i = 15
  · rw [if_pos c15, if_neg pl_10, c15]; rfl
  rw [if_neg c15, if_pos rfl]
  rw [T16, pl_bd]
  by_cases c16 : V i = 16
  · rw [if_pos c16, if_neg pl_10, c16]; rfl
  rw [if_neg c16, if_pos rfl]
  rw [if_neg (show ¬ V i < 17 by omega)]; rfl
