/-! feed; the family 'bt' out of the kit's rows to paste -/
def bt (x : Int32) (i : Nat) : Bool := x.toBitVec.getLsbD i
theorem b_ext {x y : Int32} (h : ∀ i, i < 32 → bt x i = bt y i) : x = y := Int32.toBitVec_inj.mp (BitVec.eq_of_getLsbD_eq (fun i hi => h i hi))
theorem b_or (x y : Int32) (i : Nat) : bt (x ||| y) i = (bt x i || bt y i) := by unfold bt; rw [Int32.toBitVec_or, BitVec.getLsbD_or]
theorem b_and (x y : Int32) (i : Nat) : bt (x &&& y) i = (bt x i && bt y i) := by unfold bt; rw [Int32.toBitVec_and, BitVec.getLsbD_and]
theorem b_xor (x y : Int32) (i : Nat) : bt (x ^^^ y) i = (bt x i ^^ bt y i) := by unfold bt; rw [Int32.toBitVec_xor, BitVec.getLsbD_xor]
theorem b_big {x : Int32} {i : Nat} (h : 32 ≤ i) : bt x i = false := BitVec.getLsbD_of_ge _ _ h
theorem b_255 (i : Nat) : bt 255 i = decide (i < 8) := by
  rcases Nat.lt_or_ge i 32 with h | h
  · exact (by decide +kernel : ∀ i, i < 32 → bt 255 i = decide (i < 8)) i h
  · rw [b_big h, decide_eq_false (by omega)]
theorem b_65535 (i : Nat) : bt 65535 i = decide (i < 16) := by
  rcases Nat.lt_or_ge i 32 with h | h
  · exact (by decide +kernel : ∀ i, i < 32 → bt 65535 i = decide (i < 16)) i h
  · rw [b_big h, decide_eq_false (by omega)]
theorem b_m1 : ∀ i, i < 32 → bt (-1) i = true := by decide +kernel
theorem b_0 (i : Nat) : bt 0 i = false := BitVec.getLsbD_zero
theorem s_l : ∀ n, n < 32 → ((nI n &&& 31).toBitVec.smod 32).toNat = n := by decide +kernel
theorem s_u : ∀ n, n < 32 → (((nI n).toUInt32 &&& Int32.toUInt32 31).toBitVec % 32).toNat = n := by decide +kernel
theorem b_shl (n : Nat) (hn : n < 32) (x : Int32) {i : Nat} (hi : i < 32) : bt (x <<< (nI n &&& 31)) i = (decide (n ≤ i) && bt x (i - n)) := by
  unfold bt
  rw [Int32.toBitVec_shiftLeft]
  show (x.toBitVec <<< ((nI n &&& 31).toBitVec.smod 32).toNat).getLsbD i = _
  rw [s_l n hn, BitVec.getLsbD_shiftLeft]
  rcases Nat.lt_or_ge i n with h | h
  · simp [h, Nat.not_le.mpr h]
  · simp [hi, h, Nat.not_lt.mpr h]
theorem b_ushr (n : Nat) (hn : n < 32) (x : Int32) (i : Nat) : bt ((x.toUInt32 >>> ((nI n).toUInt32 &&& Int32.toUInt32 31)).toInt32) i = bt x (n + i) := by
  show (x.toUInt32 >>> ((nI n).toUInt32 &&& Int32.toUInt32 31)).toBitVec.getLsbD i = x.toUInt32.toBitVec.getLsbD (n + i)
  rw [UInt32.toBitVec_shiftRight]
  show (x.toUInt32.toBitVec >>> (((nI n).toUInt32 &&& Int32.toUInt32 31).toBitVec % 32).toNat).getLsbD i = _
  rw [s_u n hn, BitVec.getLsbD_ushiftRight]
theorem b_sshr (n : Nat) (hn : n < 32) (x : Int32) {i : Nat} (hi : i < 32) : bt (x >>> (nI n &&& 31)) i = if n + i < 32 then bt x (n + i) else bt x 31 := by
  unfold bt
  rw [Int32.toBitVec_shiftRight]
  show (x.toBitVec.sshiftRight ((nI n &&& 31).toBitVec.smod 32).toNat).getLsbD i = _
  rw [s_l n hn, BitVec.getLsbD_sshiftRight, BitVec.msb_eq_getLsbD_last]
  simp [hi]
def zby (x : Int32) (n : Nat) : Int32 := (x >>> (nI n &&& 31)) &&& 255
theorem zby_u (x : Int32) {n : Nat} (hn : n ≤ 24) : ((x.toUInt32 >>> ((nI n).toUInt32 &&& Int32.toUInt32 31)).toInt32 &&& 255) = zby x n := by
  apply b_ext
  intro i hi
  unfold zby
  rw [b_and, b_and, b_ushr n (by omega), b_sshr n (by omega) x hi, b_255]
  by_cases h : i < 8
  · rw [if_pos (by omega)]
  · simp [h]
theorem zby_rng (x : Int32) (n : Nat) : 0 ≤ zby x n ∧ zby x n ≤ 255 := by
  unfold zby
  generalize x >>> (nI n &&& 31) = y
  have h1 : (y &&& 255).toBitVec.toNat ≤ 255 := by
    rw [Int32.toBitVec_and, BitVec.toNat_and]
    exact Nat.and_le_right
  have h2 : (y &&& 255).toInt = ((y &&& 255).toBitVec.toNat : Int) := BitVec.toInt_eq_toNat_of_lt (by omega)
  have z : (255 : Int32).toInt = 255 := by decide
  exact ⟨pl_pos (by omega), pl_le.mpr (by omega)⟩
def pbC (t : zS) (b : Int32) : zS := zu (zu t 2 (t 0 6).toNatClampNeg b) 0 6 (t 0 6 + 1)
def pbM (u : zS) (b : Int32) : zS := zu (zu u 1 (u 0 1).toNatClampNeg b) 0 1 (u 0 1 + 1)
theorem pbC_len {t : zS} {b : Int32} : pbC t b 0 6 = t 0 6 + 1 := zu_same _ _ _ _
theorem pbM_len {t : zS} {b : Int32} : pbM t b 0 1 = t 0 1 + 1 := zu_same _ _ _ _
/-- one byte more on both tapes -/
theorem st_push {P : zS → zS → Prop} {t u : zS} (h : zR4 P t u) (hm : (t 0 6).toInt < 3000) {b : Int32} (hb : 0 ≤ b ∧ b ≤ 255) : zR4 P (pbC t b) (pbM u b) := by
  obtain ⟨hT, hZ, hI, hP⟩ := h
  obtain ⟨h1, h2, h3, h4⟩ := hT
  have e := pl_nat h2
  have w1 : (1 : Int32).toInt = 1 := by decide
  have z3 : (3000 : Int32).toInt = 3000 := by decide
  have hl : (t 0 6 + 1).toInt = (t 0 6).toInt + 1 := by rw [pl_add (by omega) (by omega), w1]
  refine ⟨?_, ?_, ?_, ?_⟩
  · unfold zTape
    rw [pbC_len, pbM_len, ← h1]
    refine ⟨rfl, pl_pos (by omega), pl_le.mpr (by omega), fun j hj => ?_⟩
    have eC : pbC t b 2 j = zu t 2 (t 0 6).toNatClampNeg b 2 j := zu_ne1 (by decide)
    have eM : pbM u b 1 j = zu u 1 (t 0 6).toNatClampNeg b 1 j := by unfold pbM; rw [h1]; exact zu_ne1 (by decide)
    rw [eC, eM]
    by_cases q : j = (t 0 6).toNatClampNeg
    · subst q
      rw [zu_same, zu_same]
      exact ⟨rfl, hb⟩
    · rw [zu_ne2 q, zu_ne2 q]
      exact h4 j (by omega)
  · exact zSize_of hZ (by unfold pbC; rw [zu_ne2 (by decide), zu_ne1 (by decide)]) (by unfold pbC; rw [zu_ne2 (by decide), zu_ne1 (by decide)]) (by unfold pbM; rw [zu_ne2 (by decide), zu_ne1 (by decide)]) (by unfold pbM; rw [zu_ne2 (by decide), zu_ne1 (by decide)])
  · exact zInp_of hI (by unfold pbC; rw [zu_ne1 (by decide), zu_ne1 (by decide)]) (by unfold pbC; rw [zu_ne1 (by decide), zu_ne1 (by decide)]) (by unfold pbM; rw [zu_ne2 (by decide), zu_ne1 (by decide)]) (by unfold pbC; rw [zu_row (by decide), zu_row (by decide)]) (by unfold pbM; rw [zu_row (by decide), zu_row (by decide)])
  · unfold pbC pbM
    rw [zcC_zu (by simp), zcC_zu (by simp), zcM_zu (by simp), zcM_zu (by simp)]
    exact hP
theorem pl_app1 {k3 : Int32 → Int32 → zS → zR} {x x2 : Int32} {n : Nat} {t : zS} (hx : x2 = nI n) (hn : n ≤ 24) (h0 : 0 ≤ t 0 6) (hm : (t 0 6).toInt < 3000) : bX11_append_3 k3 x x2 t = k3 x (x2 + (-8)) (pbC t (zby x n)) := by
  have e := pl_nat h0
  have hp : ¬ x2 < 0 := by
    rw [hx]
    exact Int32.not_lt.mpr (zofn (k := n) (by omega)).1
  unfold bX11_append_3
  rw [if_neg hp, pl_set (m := (t 0 6).toNatClampNeg) (by decide) (by omega) (by omega), pl_bd, pl_pt, pl_let, zu_ne1 (by decide), hx, zby_u x hn]
  rfl
theorem pl_app {x : Int32} {t : zS} (h0 : 0 ≤ t 0 6) (hm : (t 0 6).toInt ≤ 2996) : mX11_append x t = some (0, pbC (pbC (pbC (pbC t (zby x 24)) (zby x 16)) (zby x 8)) (zby x 0)) := by
  have w1 : (1 : Int32).toInt = 1 := by decide
  have g0 := pl_le.mp h0
  have z0 : (0 : Int32).toInt = 0 := by decide
  have l1 : (t 0 6 + 1).toInt = (t 0 6).toInt + 1 := by rw [pl_add (by omega) (by omega), w1]
  have l2 : (t 0 6 + 1 + 1).toInt = (t 0 6).toInt + 2 := by rw [pl_add (by omega) (by omega), w1]; omega
  have l3 : (t 0 6 + 1 + 1 + 1).toInt = (t 0 6).toInt + 3 := by rw [pl_add (by omega) (by omega), w1]; omega
  unfold mX11_append
  rw [show zFU = 999995 + 1 + 1 + 1 + 1 + 1 from rfl]
  rw [lX11_append_3, pl_app1 (x2 := 24) (n := 24) rfl (by omega) h0 (by omega)]
  rw [lX11_append_3, pl_app1 (x2 := 24 + -8) (n := 16) (by decide) (by omega) (by rw [pbC_len]; exact pl_pos (by omega)) (by rw [pbC_len]; omega)]
  rw [lX11_append_3, pl_app1 (x2 := 24 + -8 + -8) (n := 8) (by decide) (by omega) (by rw [pbC_len, pbC_len]; exact pl_pos (by omega)) (by rw [pbC_len, pbC_len]; omega)]
  rw [lX11_append_3, pl_app1 (x2 := 24 + -8 + -8 + -8) (n := 0) (by decide) (by omega) (by rw [pbC_len, pbC_len, pbC_len]; exact pl_pos (by omega)) (by rw [pbC_len, pbC_len, pbC_len]; omega)]
  rw [lX11_append_3]
  unfold bX11_append_3
  rw [if_pos (by decide)]
def zsel (a b c d e : Int32) (k : Nat) : Int32 := if k < 4 then a else if k < 8 then b else if k < 12 then c else if k < 16 then d else e
theorem pl_fd71 {k18 : Int32 → Int32 → Int32 → Int32 → Int32 → Int32 → zS → zR} {a b c d e y : Int32} {k : Nat} (hk : k < 20) {u : zS} (h0 : 0 ≤ u 0 1) (hm : (u 0 1).toInt < 3000) : bX12_feed_71 k18 a b c d e (nI k) y u = k18 a b c d e (nI (k + 1)) (pbM u (zby y (24 - 8 * (k % 4)))) := by
  have q : ∀ k, k < 20 → (24 - 8 * (nI k - nI k / 4 * 4)) = nI (24 - 8 * (k % 4)) := by decide +kernel
  have e1 := pl_nat h0
  unfold bX12_feed_71
  rw [pl_wr ⟨h0, by omega⟩, pl_pt, pl_let, zu_ne1 (by decide), q k hk, nI_1]
  rfl
theorem pl_fd18 {k18 : Int32 → Int32 → Int32 → Int32 → Int32 → Int32 → zS → zR} {a b c d e : Int32} {k : Nat} (hk : k < 20) {u : zS} (h0 : 0 ≤ u 0 1) (hm : (u 0 1).toInt < 3000) : bX12_feed_18 k18 a b c d e (nI k) u = k18 a b c d e (nI (k + 1)) (pbM u (zby (zsel a b c d e k) (24 - 8 * (k % 4)))) := by
  have ek : (nI k).toInt = (k : Int) := pl_ofn (by omega)
  have c4 : (4 : Int32).toInt = 4 := by decide
  have c8 : (8 : Int32).toInt = 8 := by decide
  have c12 : (12 : Int32).toInt = 12 := by decide
  have c16 : (16 : Int32).toInt = 16 := by decide
  have c20 : (20 : Int32).toInt = 20 := by decide
  unfold bX12_feed_18 zsel
  rw [if_neg (fun h => by have := pl_le.mp h; omega)]
  by_cases k4 : k < 4
  · rw [if_neg (fun h => by have := pl_le.mp h; omega), if_pos k4]; exact pl_fd71 hk h0 hm
  rw [if_pos (pl_le.mpr (by omega)), if_neg k4]
  by_cases k8 : k < 8
  · rw [if_neg (fun h => by have := pl_le.mp h; omega), if_pos k8]; exact pl_fd71 hk h0 hm
  rw [if_pos (pl_le.mpr (by omega)), if_neg k8]
  by_cases k12 : k < 12
  · rw [if_neg (fun h => by have := pl_le.mp h; omega), if_pos k12]; exact pl_fd71 hk h0 hm
  rw [if_pos (pl_le.mpr (by omega)), if_neg k12]
  by_cases k16 : k < 16
  · rw [if_neg (fun h => by have := pl_le.mp h; omega), if_pos k16]; exact pl_fd71 hk h0 hm
  rw [if_pos (pl_le.mpr (by omega)), if_neg k16]
  exact pl_fd71 hk h0 hm
/-- so many bytes from the k-th on -/
def pbMs (a b c d e : Int32) : Nat → Nat → zS → zS
  | 0, _, u => u
  | n + 1, k, u => pbMs a b c d e n (k + 1) (pbM u (zby (zsel a b c d e k) (24 - 8 * (k % 4))))
theorem pl_fdl {a b c d e : Int32} : ∀ (n k fu : Nat) (u : zS), n + k = 20 → 0 ≤ u 0 1 → (u 0 1).toInt + n ≤ 3000 → lX12_feed_18 (fu + n + 1) a b c d e (nI k) u = some ((pbMs a b c d e n k u) 0 1, pbMs a b c d e n k u) := by
  intro n
  induction n with
  | zero =>
    intro k fu u hk h0 hm
    have e : k = 20 := by omega
    subst e
    rw [lX12_feed_18]
    unfold bX12_feed_18
    rw [if_pos (by decide)]
    rfl
  | succ n ih =>
    intro k fu u hk h0 hm
    have w1 : (1 : Int32).toInt = 1 := by decide
    have z0 : (0 : Int32).toInt = 0 := by decide
    have g0 := pl_le.mp h0
    have l1 : (u 0 1 + 1).toInt = (u 0 1).toInt + 1 := by rw [pl_add (by omega) (by omega), w1]
    rw [lX12_feed_18, pl_fd18 (by omega) h0 (by omega), show fu + (n + 1) = fu + n + 1 by omega, pbMs]
    exact ih (k + 1) fu _ (by omega) (by rw [pbM_len]; exact pl_pos (by omega)) (by rw [pbM_len]; omega)
