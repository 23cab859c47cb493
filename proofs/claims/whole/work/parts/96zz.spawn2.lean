/-! ACT spawn: memory, and what follows -/
theorem zCl237 {u : zS} {p y x sk op nx rw : Nat} {x8 : Int32} (hop : op = 0 ∨ op = 1) (hown : mX12_ownMany (Int32.ofNat x) u = some (Int32.ofNat nx, u)) (h73 : u 0 73 = Int32.ofNat rw) : bX12_calls_237 (Int32.ofNat p) (Int32.ofNat y) (Int32.ofNat x) 0 (Int32.ofNat sk) x8 (Int32.ofNat op) u = if u 0 80 + Int32.ofNat (4 + nx + op * (4 + 2 * rw)) ≤ u 0 74 then lX12_calls_303 zFU (Int32.ofNat p) (Int32.ofNat y) (Int32.ofNat x) 0 (Int32.ofNat sk) x8 (Int32.ofNat op) (Int32.ofNat (4 + nx + op * (4 + 2 * rw))) 0 u else some (0, zu u 0 72 4) := by
  unfold bX12_calls_237 mX12_processCells
  rw [hown, pl_bd, pl_bd, if_pos rfl, show (4 : Int32) + Int32.ofNat nx = Int32.ofNat (4 + nx) from zn_add 4 nx]
  rcases hop with e | e
  · subst e
    unfold bX12_calls_263 bX12_calls_277 mX12_channelCells
    rw [if_pos (show Int32.ofNat 0 = 0 from rfl), pl_let, Int32.sub_zero, Int32.add_zero, Nat.zero_mul, Nat.add_zero]
    rfl
  · subst e
    unfold bX12_calls_263 bX12_calls_277 mX12_channelCells
    rw [if_neg (by decide), pl_bd, h73, zCells, pl_let, Int32.sub_zero, zn_add, Nat.one_mul]
    rfl
/-- the class behind its ARGUMENTS -/
def zKsp (x1 x2 x4 : Int32) (op : Nat) (r : Int32) (t : zS) : zR := if Int32.ofNat op = 0 then bX4_spawn_203 x1 x2 t else zbd (mX0_make t) fun r2168 t2169 => zbd (mX8_setChannel r 0 r2168 t2169) fun r2171 t2172 => zbd (mX8_setChannel x1 x4 (r2168 ^^^ 1) t2172) fun r2174 t2175 => bX4_spawn_203 x1 x2 t2175
theorem zSp68 {t t1 : zS} {p y x sk op nx rw mem lim : Nat} {x4 : Int32} (hop : op = 0 ∨ op = 1) (htell : mX4_tellAll (Int32.ofNat p) (Int32.ofNat y) (Int32.ofNat x) (Int32.ofNat sk) t = some (1, t1)) (hx : x < 300) (h39 : t1 39 x = Int32.ofNat nx) (h59 : t1 59 7 = Int32.ofNat rw) (h14 : t1 7 14 = Int32.ofNat mem) (h15 : t1 7 15 = Int32.ofNat lim) : bX4_spawn_68 (Int32.ofNat p) (Int32.ofNat y) (Int32.ofNat x) x4 (Int32.ofNat sk) (Int32.ofNat op) t = if Int32.ofNat (mem + (4 + nx + op * (4 + 2 * rw))) ≤ Int32.ofNat lim then (zbd (mX8_join (Int32.ofNat x) (Int32.ofNat nx) (t1 41 x) (zu t1 7 14 (Int32.ofNat (mem + (4 + nx + op * (4 + 2 * rw)))))) fun r2159 t2160 => zbd (mX4_handOver r2159 (Int32.ofNat x) (Int32.ofNat sk) t2160) fun r2162 t2163 => zbd (mX4_giveAway (Int32.ofNat p) (Int32.ofNat y) (Int32.ofNat x) (Int32.ofNat sk) t2163) fun r2165 t2166 => zKsp (Int32.ofNat p) (Int32.ofNat y) x4 op r2159 t2166) else some (0, zu t1 7 16 4) := by
  have c104 : ∀ y0 : Nat, bX4_spawn_104 (Int32.ofNat p) (Int32.ofNat y) (Int32.ofNat x) x4 (Int32.ofNat sk) (Int32.ofNat op) (Int32.ofNat y0) (Int32.ofNat (4 + nx)) t1 = if Int32.ofNat (mem + (4 + nx + y0)) ≤ Int32.ofNat lim then (zbd (mX8_join (Int32.ofNat x) (Int32.ofNat nx) (t1 41 x) (zu t1 7 14 (Int32.ofNat (mem + (4 + nx + y0))))) fun r2159 t2160 => zbd (mX4_handOver r2159 (Int32.ofNat x) (Int32.ofNat sk) t2160) fun r2162 t2163 => zbd (mX4_giveAway (Int32.ofNat p) (Int32.ofNat y) (Int32.ofNat x) (Int32.ofNat sk) t2163) fun r2165 t2166 => zKsp (Int32.ofNat p) (Int32.ofNat y) x4 op r2159 t2166) else some (0, zu t1 7 16 4) := fun y0 => by
    unfold bX4_spawn_104 mX4_claim
    rw [zn_add, h14, h15, zn_add]
    by_cases c : Int32.ofNat (mem + (4 + nx + y0)) ≤ Int32.ofNat lim
    · rw [if_pos c, if_pos c, pl_pt, pl_bd, if_neg pl_10, zn_get (by omega) (by decide), pl_bd, zu_ne1 (by decide), h39, zn_get (by omega) (by decide), pl_bd, zu_ne1 (by decide)]
      rfl
    · rw [if_neg c, if_neg c, pl_pt, pl_bd, if_pos rfl]
  unfold bX4_spawn_68 mX4_cellsOf mX0_cellsOfOne
  rw [htell, pl_bd, if_neg pl_10, zn_get (by omega) (by decide), pl_bd, pl_bd, h39, show (4 : Int32) + Int32.ofNat nx = Int32.ofNat (4 + nx) from zn_add 4 nx, pl_bd, h59, zCells, c104]
  have c0 := c104 0
  rw [show Int32.ofNat 0 = 0 from rfl] at c0
  rw [c0]
  rcases hop with e | e
  · subst e
    rw [if_pos (show Int32.ofNat 0 = 0 from rfl), Nat.zero_mul]
  · subst e
    rw [if_neg (by decide), Nat.one_mul]
theorem zHH_new {D : zCo} {Y : Nat → Nat} {fc fc2 c y y' : Nat} {H : zS} (h : zHH D Y fc H) (hf : fc ≤ 2000) (hf2 : fc ≤ fc2) (hn : ∀ a b e, H a b = Int32.ofNat e → e < 4000 → ¬ (e = 2 * c ∨ e = 2 * c + 1)) : zHH D (zfu (zfu Y (2 * c) y) (2 * c + 1) y') fc2 H := by
  refine ⟨h.1, fun a b => ?_⟩
  rcases h.2 a b with q | ⟨e, q1, q2, q3⟩
  · exact Or.inl q
  · have := hn a b e q1 (by omega)
    refine Or.inr ⟨e, q1, by omega, ?_⟩
    rw [zfu_ne (by omega), zfu_ne (by omega)]; exact q3
/-- room for one more -/
theorem zRoomFor {n : Nat → Nat} {Q m x : Nat} {R pq : Nat → Nat} {fr fd : Nat} {fp : Nat → Nat} {fc fk rw mem lim : Nat} {t u : zS} (hM : zMe n m R pq fc fk rw mem lim t u) (hP : zAP Q m R pq fr fd fp) (hk : fk ≤ fc) {op : Nat} (hop : op = 0 ∨ op = 1) (hl : mem + (4 + n x + op * (4 + 2 * rw)) ≤ lim) : (fd = 0 → fr < 2500) ∧ zSs (fun i => n (pq (R i))) m + n x ≤ 12000 ∧ (op = 1 → fk = 0 → (fc + 1) * (4 + 2 * rw) ≤ 10000) ∧ ∀ r, (∀ i, i < m → ¬ R i = r) → mem + (4 + n x + op * (4 + 2 * rw)) = zSs (fun i => 4 + n (zfu pq r x (zfu R m r i))) (m + 1) + (fc - fk + op) * (4 + 2 * rw) := by
  obtain ⟨_, _, _, _, h1, h2, h3⟩ := hM
  have s4 := zSs_4 (f := fun i => n (pq (R i))) m
  have l0 : mem + (4 + n x) ≤ lim := by
    have := Nat.zero_le (op * (4 + 2 * rw))
    omega
  have l1 : zSs (fun i => 4 + n (pq (R i))) m ≤ mem := by rw [h3]; exact Nat.le_add_right _ _
  refine ⟨fun z => ?_, by omega, fun e z => ?_, fun r hr => ?_⟩
  · have := hP.2.2.1
    omega
  · subst e; subst z
    rw [Nat.one_mul] at hl
    rw [Nat.sub_zero] at h3
    rw [Nat.add_mul, Nat.one_mul]
    omega
  · show _ = zSs (fun i => 4 + n (zfu pq r x (zfu R m r i))) m + (4 + n (zfu pq r x (zfu R m r m))) + _
    rw [zfu_same, zfu_same, zSs_congr (g := fun i => 4 + n (pq (R i))) m (fun i hi => by
      show 4 + n (zfu pq r x (zfu R m r i)) = 4 + n (pq (R i))
      rw [zfu_ne (show ¬ i = m by omega), zfu_ne (hr i hi)]), Nat.add_mul, h3]
    omega
