/-! CHECK: whether there are channels -/
theorem pl_own {q n b : Nat} {u : zS} (hq : q < 300) (h1 : u 31 q = Int32.ofNat b) (h2 : u 31 (q + 1) = Int32.ofNat (b + n)) (hb : b + n ≤ 3000) : mX12_ownMany (Int32.ofNat q) u = some (Int32.ofNat n, u) := by
  unfold mX12_ownMany
  rw [zn_1, zn_rd (by omega) (by decide), zn_rd (by omega) (by decide), h1, h2, zn_sub (by omega) (by omega), show b + n - b = n by omega]
/-- the slots of the proc that is checked -/
theorem zCk_own {G : zTxt} {f : Nat → Nat} {N M P A T Q Pa bb S F C R W V n d q : Nat} {o : Nat → Nat × Nat} {w : Nat → Nat} {t u : zS} (hx : zCx G f N M P A T Q Pa bb S F C R W V o w t u) (hk : zCk f N n d q t u) (hq : q < Q) : mX12_ownMany (u 0 68) u = some (Int32.ofNat n, u) := by
  obtain ⟨hg, hb, hK, hP, _, hF, hC, hS, hQ, hR, hW, hV, hbb, hPa⟩ := hx
  obtain ⟨k1, k2, k3, k4, k5, k6, k7, k8⟩ := hk
  obtain ⟨m, b, kk, a, c1, c2, c3, c4, _⟩ := hP.2.2.2.2.2.2.1 q hq
  have em : m = n := by
    rw [k5] at c1
    exact ((zn_inj (by omega) (by omega)).mp c1).symm
  subst em
  rw [k4]
  exact pl_own (by omega) c2 c3 (by omega)
theorem zHas {G : zTxt} {f : Nat → Nat} {N M P A T Q Pa bb S F C R W V n d q : Nat} {o : Nat → Nat × Nat} {w : Nat → Nat} {t u : zS} (hx : zCx G f N M P A T Q Pa bb S F C R W V o w t u) (hk : zCk f N n d q t u) (hq : q < Q) : ∃ b, mX1_hasChannels t = some (b, t) ∧ mX12_hasAny (Int32.ofNat d) u = some (b, u) ∧ ((b = 0 ∧ ∀ k, k < n → t 58 k = -1) ∨ (b = 1 ∧ ∃ k, k < n ∧ ¬ t 58 k = -1)) := by
  have own := zCk_own hx hk hq
  have hg := hx.1
  obtain ⟨k1, k2, k3, k4, k5, k6, k7, k8⟩ := hk
  have yes : ∀ (e j fv : Nat), e + j = n → lX12_hasAny_4 (fv + e + 1) (Int32.ofNat d) 1 (Int32.ofNat j) u = some (1, u) := by
    intro e
    induction e with
    | zero =>
      intro j fv he
      show bX12_hasAny_4 _ _ _ _ u = _
      unfold bX12_hasAny_4
      rw [own, pl_bd, if_pos ((zn_le (by omega) (by omega)).mpr (by omega))]
      rfl
    | succ e ih =>
      intro j fv he
      show bX12_hasAny_4 (lX12_hasAny_4 (fv + e + 1)) _ _ _ u = _
      unfold bX12_hasAny_4 bX12_hasAny_35 bX12_hasAny_40
      rw [own, pl_bd, if_neg (show ¬ Int32.ofNat n ≤ Int32.ofNat j by rw [zn_le (by omega) (by omega)]; omega), if_neg pl_10, pl_let, zn_1]
      exact ih (j + 1) fv (by omega)
  have loop : ∀ (e j fu fv : Nat), e + j = n → (∀ k, k < j → t 58 k = -1) → ∃ b, lX1_hasChannels_2 (fu + e + 1) (Int32.ofNat j) t = some (b, t) ∧ lX12_hasAny_4 (fv + e + 1) (Int32.ofNat d) 0 (Int32.ofNat j) u = some (b, u) ∧ ((b = 0 ∧ ∀ k, k < n → t 58 k = -1) ∨ (b = 1 ∧ ∃ k, k < n ∧ ¬ t 58 k = -1)) := by
    intro e
    induction e with
    | zero =>
      intro j fu fv he hno
      refine ⟨0, ?_, ?_, Or.inl ⟨rfl, fun k hk => hno k (by omega)⟩⟩
      · show bX1_hasChannels_2 _ _ t = _
        unfold bX1_hasChannels_2
        rw [k1, if_pos ((zn_le (by omega) (by omega)).mpr (by omega))]
      · show bX12_hasAny_4 _ _ _ _ u = _
        unfold bX12_hasAny_4
        rw [own, pl_bd, if_pos ((zn_le (by omega) (by omega)).mpr (by omega))]
        rfl
    | succ e ih =>
      intro j fu fv he hno
      have g57 : mX5_get 57 80000 (Int32.ofNat j) t = some (t 58 j, t) := zn_get (by omega) (by decide)
      have eC : lX1_hasChannels_2 (fu + (e + 1) + 1) (Int32.ofNat j) t = if t 58 j < 0 then lX1_hasChannels_2 (fu + e + 1) (Int32.ofNat (j + 1)) t else some (1, t) := by
        show bX1_hasChannels_2 (lX1_hasChannels_2 (fu + e + 1)) _ t = _
        unfold bX1_hasChannels_2
        rw [k1, if_neg (show ¬ Int32.ofNat n ≤ Int32.ofNat j by rw [zn_le (by omega) (by omega)]; omega), g57, pl_bd, pl_let, zn_1]
      have eM : lX12_hasAny_4 (fv + (e + 1) + 1) (Int32.ofNat d) 0 (Int32.ofNat j) u = if u 42 (1500 * d + j) < 0 then lX12_hasAny_4 (fv + e + 1) (Int32.ofNat d) 0 (Int32.ofNat (j + 1)) u else lX12_hasAny_4 (fv + e + 1) (Int32.ofNat d) 1 (Int32.ofNat (j + 1)) u := by
        show bX12_hasAny_4 (lX12_hasAny_4 (fv + e + 1)) _ _ _ u = _
        unfold bX12_hasAny_4 bX12_hasAny_35 bX12_hasAny_40
        rw [own, pl_bd, if_neg (show ¬ Int32.ofNat n ≤ Int32.ofNat j by rw [zn_le (by omega) (by omega)]; omega), if_pos rfl, zn_15, zn_rd (by omega) (by decide), pl_let, zn_1, pl_let]
      rw [eC, eM]
      rcases zRs_neg hg (k8 j (by omega)) with ⟨n1, n2, _, _, n3, _⟩ | ⟨n1, n2, n3, _⟩
      · rw [if_pos n1, if_pos n2]
        refine ih (j + 1) fu fv (by omega) (fun k hk => ?_)
        by_cases ek : k = j
        · rw [ek]; exact n3
        · exact hno k (by omega)
      · rw [if_neg n1, if_neg n2]
        refine ⟨1, rfl, yes e (j + 1) fv (by omega), Or.inr ⟨rfl, j, by omega, fun w => ?_⟩⟩
        rw [w] at n3
        exact absurd n3 zn_m1
  have := loop n 0 (zFU - n - 1) (zFU - n - 1) (by omega) (fun k hk => absurd hk (Nat.not_lt_zero k))
  rw [show zFU - n - 1 + n + 1 = zFU by unfold zFU; omega] at this
  exact this
