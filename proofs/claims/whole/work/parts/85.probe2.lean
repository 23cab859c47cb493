/-- a new name: behind names that are others, the first hole takes it -/
theorem pl_probeN {t : zS} {n b e s i0 : Nat} {fl sl : Nat → Nat} {h : Int32} (hN : zNT t n fl sl) (hn : n < 1600) (hb : b ≤ e) (he : e ≤ 3120) (h6 : t 50 6 = Int32.ofNat e) (hi0 : i0 < 4096) (hs : ((h + Int32.ofNat i0) &&& 4095).toInt = (s : Int)) (h4 : s < 4096) (hh : (t 73 s).toInt < 0) (hbf : ∀ j, j < i0 → ∃ w, w < n ∧ ((h + Int32.ofNat j) &&& 4095).toInt = (sl w : Int) ∧ ¬ zeqn t fl b e w) : ∀ (d i fu : Nat), d + i = i0 → lX10_nameNumber_46 (fu + d + 1) (Int32.ofNat b) h (Int32.ofNat i) t = some (Int32.ofNat n, zu (zu (zu t 73 s (Int32.ofNat n)) 50 5 (Int32.ofNat (n + 1))) 71 (n + 1) (Int32.ofNat e)) := by
  intro d
  induction d with
  | zero =>
    intro i fu hi
    have e0 : i = i0 := by omega
    subst e0
    rw [lX10_nameNumber_46, pl_probe0 hN hn he h6 hi0 hs h4 hh]
  | succ d ih =>
    intro i fu hi
    obtain ⟨w, hw, hsw, hne⟩ := hbf i (by omega)
    rw [show fu + (d + 1) + 1 = (fu + d + 1) + 1 by omega, lX10_nameNumber_46, pl_probe1 hN hb he h6 (by omega) hw hsw, if_neg (show ¬ (fl (w + 1) - fl w = e - b ∧ zsame (t 69) (e - b) (fl w) b = true) from hne)]
    exact ih (i + 1) fu (by omega)
/-- the probes of one hash go over different places -/
theorem zprobe_inj {h : Int32} {i j : Nat} (hi : i < 4096) (hj : j < 4096) (he : ((h + Int32.ofNat i) &&& 4095) = ((h + Int32.ofNat j) &&& 4095)) : i = j := by
  have key : ∀ (x : Int32) (k : Nat), k < 4096 → ((x + Int32.ofNat k) &&& 4095).toBitVec.toNat = (x.toBitVec.toNat + k) % 4096 := by
    intro x k hk
    rw [Int32.toBitVec_and, BitVec.toNat_and, Int32.toBitVec_add, BitVec.toNat_add]
    have e1 : (Int32.ofNat k).toBitVec.toNat = k := by
      show (BitVec.ofNat 32 k).toNat = k
      rw [BitVec.toNat_ofNat]
      exact Nat.mod_eq_of_lt (by omega)
    have e2 : ((4095 : Int32)).toBitVec.toNat = 2 ^ 12 - 1 := by decide
    rw [e1, e2, Nat.and_two_pow_sub_one_eq_mod]
    omega
  have h1 := key h i hi
  have h2 := key h j hj
  rw [he] at h1
  omega
