/-! bytes of words; looking types and procs up -/
theorem zskip_ge {g : Nat → Int32} {n : Nat} : ∀ (d p : Nat), p ≤ zskip g n d p := by
  intro d
  induction d with
  | zero => intro p; exact Nat.le_refl _
  | succ d ih =>
    intro p
    unfold zskip
    by_cases c : p < n ∧ (g p = 32 ∨ g p = 10)
    · rw [if_pos c]
      exact Nat.le_trans (Nat.le_succ _) (ih (p + 1))
    · rw [if_neg c]; exact Nat.le_refl _
theorem zpos_next {g : Nat → Int32} {n j : Nat} (h : zpos g n j < n) : zend g n (zpos g n j) ≤ zpos g n (j + 1) := by
  show _ ≤ (if zpos g n j < n then zskip g n (n - zend g n (zpos g n j)) (zend g n (zpos g n j)) else n)
  rw [if_pos h]
  exact zskip_ge _ _
theorem zpos_inc {G : zTxt} {i : Nat} {t u : zS} (h : zAt G i t u) : ∀ (d j : Nat), j + d ≤ G.2.2.1 → zpos G.1 G.2.1 j + d ≤ zpos G.1 G.2.1 (j + d) := by
  intro d
  induction d with
  | zero => intro j _; exact Nat.le_refl _
  | succ d ih =>
    intro j hj
    have h1 := ih j (by omega)
    have h2 := (h.1.2.2.1 (j + d) (by omega)).1
    have h3 := zpos_next h2
    have h4 := zend_lt (g := G.1) h2
    show _ ≤ zpos G.1 G.2.1 (j + d + 1)
    omega
/-- two words of letters don't touch -/
theorem zpos_gap {G : zTxt} {i j : Nat} {t u : zS} (h : zAt G i t u) (hj : j + 1 < G.2.2.1) (h1 : zltb (G.1 (zpos G.1 G.2.1 j)) = true) (h2 : zltb (G.1 (zpos G.1 G.2.1 (j + 1))) = true) : zend G.1 G.2.1 (zpos G.1 G.2.1 j) + 1 ≤ zpos G.1 G.2.1 (j + 1) := by
  have hp := (h.1.2.2.1 j (by omega)).1
  have hp2 := (h.1.2.2.1 (j + 1) hj).1
  have hn := zpos_next hp
  have hz := zend_lt (g := G.1) hp
  rcases Nat.lt_or_ge (zend G.1 G.2.1 (zpos G.1 G.2.1 j)) (zpos G.1 G.2.1 (j + 1)) with q | q
  · exact q
  · exfalso
    have e : zend G.1 G.2.1 (zpos G.1 G.2.1 j) = zpos G.1 G.2.1 (j + 1) := by omega
    have ee : zend G.1 G.2.1 (zpos G.1 G.2.1 j) = zrun zaln G.1 G.2.1 (G.2.1 - zpos G.1 G.2.1 j) (zpos G.1 G.2.1 j) := by
      unfold zend
      rw [if_pos h1]
    have := zrun_end (f := zaln) (g := G.1) (n := G.2.1) (G.2.1 - zpos G.1 G.2.1 j) (zpos G.1 G.2.1 j) (by omega) (by rw [← ee, e]; exact hp2)
    rw [← ee, e, zaln_of h2] at this
    cases this
/-- type or proc, and the NAME behind it -/
theorem zpos_key {G : zTxt} {i k : Nat} {t u t1 u1 : zS} (h : zAt G i t u) (h1 : zAt G (i + 1) t1 u1) (hk : k = 0 ∨ k = 1) (hc : t 5 9 = Int32.ofNat k) (hc1 : t1 5 9 = 17) : zpos G.1 G.2.1 i + 5 ≤ zpos G.1 G.2.1 (i + 1) ∧ zpos G.1 G.2.1 (i + 1) < 3000 := by
  obtain ⟨a1, a2, a3⟩ := zAt_kw h (by omega) hc
  obtain ⟨b1, b2, b3, b4, b5⟩ := zAt_nmj h1 hc1
  have g := zpos_gap h b1 a2 b2
  have hn : zKn G.1 G.2.1 i k := (h.1.2.2.2.2.2.2 i k a1 (by omega) a2).mp a3
  have h2 : G.2.1 ≤ 3000 := h.2.2.2.1
  have hp := (h.1.2.2.1 (i + 1) b1).1
  have hz := zend_lt (g := G.1) (h.1.2.2.1 i a1).1
  refine ⟨?_, by omega⟩
  have := hn.1
  rcases hk with e | e <;> subst e
  · have e4 : zkf (0 + 1) - zkf 0 = 4 := by decide
    omega
  · have e4 : zkf (1 + 1) - zkf 1 = 4 := by decide
    omega
/-- names of types or procs: class's row r by name, reference's row k of ids -/
def zBy (B : List Nat) (T : Nat) (byN ids : Nat → Int32) : Prop := (∀ v, v < 1600 → byN v = -1 ∨ ∃ k, k < T ∧ byN v = Int32.ofNat k ∧ ∃ w, ids k = Int32.ofNat w ∧ B[w]? = some v) ∧ ∀ k, k < T → ∃ v w, v < 1600 ∧ ids k = Int32.ofNat w ∧ B[w]? = some v ∧ byN v = Int32.ofNat k
theorem pl_typeOfId {G : zTxt} {i T v w : Nat} {t u : zS} {byN : Nat → Int32} (ha : zAt G i t u) (hb : zBy (zBk G) T byN (u 11)) (hT : u 0 22 = Int32.ofNat T) (hT4 : T ≤ 400) (hv : v < 1600) (hw : (zBk G)[w]? = some v) : mX12_typeOfId (Int32.ofNat w) u = some (byN v, u) := by
  have hB := zBk_len ha
  have hl := zLs_lt hw
  have loop : ∀ (d j fu : Nat), d + j = T → (∀ k, k < j → ¬ u 11 k = Int32.ofNat w) → lX12_typeOfId_2 (fu + d + 1) (Int32.ofNat w) (Int32.ofNat j) u = some (byN v, u) := by
    intro d
    induction d with
    | zero =>
      intro j fu hd hno
      show bX12_typeOfId_2 _ _ _ _ = _
      unfold bX12_typeOfId_2
      rw [if_pos (by rw [hT, zn_le (by omega) (by omega)]; omega)]
      rcases hb.1 v hv with e | ⟨k, k1, k2, x, k3, k4⟩
      · rw [e]
      · exfalso
        have := zB_inj k4 hw
        subst this
        exact hno k (by omega) k3
    | succ d ih =>
      intro j fu hd hno
      show bX12_typeOfId_2 (lX12_typeOfId_2 (fu + d + 1)) _ _ _ = _
      unfold bX12_typeOfId_2
      rw [if_neg (by rw [hT, zn_le (by omega) (by omega)]; omega), zn_rd (by omega) (by decide)]
      by_cases q : u 11 j = Int32.ofNat w
      · rw [if_pos q]
        obtain ⟨v', x, k1, k2, k3, k4⟩ := hb.2 j (by omega)
        rw [q] at k2
        have l2 := zLs_lt k3
        have := (zn_inj (by omega) (by omega)).mp k2
        subst this
        rw [hw] at k3
        rw [Option.some.inj k3, k4]
      · rw [if_neg q, pl_let, zn_1]
        refine ih (j + 1) fu (by omega) (fun k hk => ?_)
        by_cases e : k = j
        · rw [e]; exact q
        · exact hno k (by omega)
  have := loop T 0 (zFU - T - 1) (by omega) (fun k hk => by omega)
  rw [show zFU - T - 1 + T + 1 = zFU by unfold zFU; omega] at this
  exact this
theorem pl_procOfId {G : zTxt} {i T v w : Nat} {t u : zS} {byN : Nat → Int32} (ha : zAt G i t u) (hb : zBy (zBk G) T byN (u 28)) (hT : u 0 44 = Int32.ofNat T) (hT4 : T ≤ 300) (hv : v < 1600) (hw : (zBk G)[w]? = some v) : mX12_procOfId (Int32.ofNat w) u = some (byN v, u) := by
  have hB := zBk_len ha
  have hl := zLs_lt hw
  have loop : ∀ (d j fu : Nat), d + j = T → (∀ k, k < j → ¬ u 28 k = Int32.ofNat w) → lX12_procOfId_2 (fu + d + 1) (Int32.ofNat w) (Int32.ofNat j) u = some (byN v, u) := by
    intro d
    induction d with
    | zero =>
      intro j fu hd hno
      show bX12_procOfId_2 _ _ _ _ = _
      unfold bX12_procOfId_2
      rw [if_pos (by rw [hT, zn_le (by omega) (by omega)]; omega)]
      rcases hb.1 v hv with e | ⟨k, k1, k2, x, k3, k4⟩
      · rw [e]
      · exfalso
        have := zB_inj k4 hw
        subst this
        exact hno k (by omega) k3
    | succ d ih =>
      intro j fu hd hno
      show bX12_procOfId_2 (lX12_procOfId_2 (fu + d + 1)) _ _ _ = _
      unfold bX12_procOfId_2
      rw [if_neg (by rw [hT, zn_le (by omega) (by omega)]; omega), zn_rd (by omega) (by decide)]
      by_cases q : u 28 j = Int32.ofNat w
      · rw [if_pos q]
        obtain ⟨v', x, k1, k2, k3, k4⟩ := hb.2 j (by omega)
        rw [q] at k2
        have l2 := zLs_lt k3
        have := (zn_inj (by omega) (by omega)).mp k2
        subst this
        rw [hw] at k3
        rw [Option.some.inj k3, k4]
      · rw [if_neg q, pl_let, zn_1]
        refine ih (j + 1) fu (by omega) (fun k hk => ?_)
        by_cases e : k = j
        · rw [e]; exact q
        · exact hno k (by omega)
  have := loop T 0 (zFU - T - 1) (by omega) (fun k hk => by omega)
  rw [show zFU - T - 1 + T + 1 = zFU by unfold zFU; omega] at this
  exact this
/-- a name more -/
theorem zBy_add {B : List Nat} {T v w : Nat} {byN ids : Nat → Int32} (h : zBy B T byN ids) (hv : v < 1600) (hw : B[w]? = some v) (hno : byN v = -1) (hT : T < 10000) : zBy B (T + 1) (fun x => if x = v then Int32.ofNat T else byN x) (fun k => if k = T then Int32.ofNat w else ids k) := by
  refine ⟨fun x hx => ?_, fun k hk => ?_⟩
  · by_cases e : x = v
    · subst e
      exact Or.inr ⟨T, by omega, by simp, w, by simp, hw⟩
    · simp only [if_neg e]
      rcases h.1 x hx with q | ⟨k, k1, k2, y, k3, k4⟩
      · exact Or.inl q
      · exact Or.inr ⟨k, by omega, k2, y, by rw [if_neg (by omega)]; exact k3, k4⟩
  · by_cases e : k = T
    · subst e
      exact ⟨v, w, hv, by simp, hw, by simp⟩
    · obtain ⟨v', y, k1, k2, k3, k4⟩ := h.2 k (by omega)
      have ne : ¬ v' = v := fun e' => by
        rw [e', hno] at k4
        exact absurd (show (0 : Int32) ≤ -1 by rw [k4]; exact zn_0le (by omega)) zn_m1
      exact ⟨v', y, k1, by simp only [if_neg e]; exact k2, k3, by simp only [if_neg ne]; exact k4⟩
