/-! mentions are looked up: the reference's step -/
theorem pl_lookT {u : zS} {k q w m fu : Nat} {x : Int32} (h52 : u 0 52 = Int32.ofNat q) (hk : k < q) (hq : q ≤ 1600) (h9 : u 0 9 = -1) (h37 : u 37 k = 0) (h35 : u 35 k = Int32.ofNat w) (h38 : u 38 k = Int32.ofNat m) (hm : m < 3100) (hx : mX12_typeOfId (Int32.ofNat w) u = some (x, u)) : lX12_lookUp_2 (fu + 1) (Int32.ofNat k) u = if 0 ≤ x then lX12_lookUp_2 fu (Int32.ofNat (k + 1)) (zu u 6 m x) else lX12_lookUp_2 fu (Int32.ofNat (k + 1)) (zu u 0 9 (u 36 k)) := by
  show bX12_lookUp_2 (lX12_lookUp_2 fu) (Int32.ofNat k) u = _
  unfold bX12_lookUp_2 bX12_lookUp_49 bX12_lookUp_103
  rw [h52, if_neg (show ¬ Int32.ofNat q ≤ Int32.ofNat k by rw [zn_le (by omega) (by omega)]; omega), if_neg (show ¬ 0 ≤ u 0 9 by rw [h9]; decide)]
  simp only [zn_rd (show k < 3000 by omega) (show 3000 < 2147483648 by decide), h37, h35, h38, hx, pl_bd, pl_let, pl_pt, zn_1, zn_wr hm (show 3100 < 2147483648 by decide), if_true]
theorem pl_lookP {u : zS} {k q w s fu : Nat} {x : Int32} (h52 : u 0 52 = Int32.ofNat q) (hk : k < q) (hq : q ≤ 1600) (h9 : u 0 9 = -1) (h37 : u 37 k = 1) (h35 : u 35 k = Int32.ofNat w) (h38 : u 38 k = Int32.ofNat s) (hs : s < 1600) (hx : mX12_procOfId (Int32.ofNat w) u = some (x, u)) : lX12_lookUp_2 (fu + 1) (Int32.ofNat k) u = if 0 ≤ x then lX12_lookUp_2 fu (Int32.ofNat (k + 1)) (zu u 17 s x) else lX12_lookUp_2 fu (Int32.ofNat (k + 1)) (zu u 0 9 (u 36 k)) := by
  show bX12_lookUp_2 (lX12_lookUp_2 fu) (Int32.ofNat k) u = _
  unfold bX12_lookUp_2 bX12_lookUp_49 bX12_lookUp_103
  rw [h52, if_neg (show ¬ Int32.ofNat q ≤ Int32.ofNat k by rw [zn_le (by omega) (by omega)]; omega), if_neg (show ¬ 0 ≤ u 0 9 by rw [h9]; decide)]
  simp only [zn_rd (show k < 3000 by omega) (show 3000 < 2147483648 by decide), h37, h35, h38, hx, pl_bd, pl_let, pl_pt, zn_1, zn_wr hs (show 1600 < 2147483648 by decide), if_neg pl_10]
