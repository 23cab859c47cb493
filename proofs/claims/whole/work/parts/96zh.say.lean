/-! ACTS: send, pass, pick -/
theorem zKd_say {G : zTxt} {o : Nat → Nat × Nat} {w : Nat → Nat} {S F C R W V s : Nat} {t u : zS} (h : zStm G o w S F C R W V t u s) : (t 87 s = 2 → u 14 s = 1 ∧ zSo t (o s).2 (t 91 s) (u 16 s) ∧ zFm t u (o s).2 F C (t 95 s) (t 97 s) (u 18 s)) ∧ (t 87 s = 3 → u 14 s = 2 ∧ zSo t (o s).2 (t 91 s) (u 16 s) ∧ zSo t (o s).2 (t 93 s) (u 17 s) ∧ u 18 s = -1) ∧ (t 87 s = 4 → u 14 s = 3 ∧ zSo t (o s).2 (t 91 s) (u 16 s) ∧ zSo t (o s).2 (t 93 s) (u 17 s) ∧ u 18 s = -1) ∧ (t 87 s = 5 → u 14 s = 4 ∧ zSo t (o s).2 (t 91 s) (u 16 s) ∧ zSo t (o s).2 (t 93 s) (u 17 s) ∧ u 18 s = -1) ∧ (t 87 s = 6 → u 14 s = 5 ∧ zSo t (o s).2 (t 91 s) (u 16 s) ∧ zNm (zBk G) (t 93 s) (u 17 s) ∧ u 18 s = -1) ∧ (t 87 s = 7 → u 14 s = 6 ∧ zSo t (o s).2 (t 91 s) (u 16 s) ∧ u 18 s = -1 ∧ zBc (zBk G) o w S W V t u s) := by
  obtain ⟨_, h⟩ := h
  have no : ∀ {a b : Int32} {A : Prop}, t 87 s = a → t 87 s = b → ¬ a = b → A := fun e1 e2 ne => absurd (e1.symm.trans e2) ne
  rcases h with ⟨w1, w2, _, w4⟩ | ⟨w1, _⟩ | ⟨w1, w2, w3, w4⟩ | ⟨w1, w2, w3, w4, w5⟩ | ⟨w1, _⟩ | ⟨w1, w2, w3, w4, w5, _⟩ | ⟨w1, _⟩ | ⟨w1, _⟩ | ⟨w1, _⟩
  · rcases w1 with w1 | w1
    · exact ⟨fun q => no w1.1 q (by decide), fun q => no w1.1 q (by decide), fun q => no w1.1 q (by decide), fun q => no w1.1 q (by decide), fun q => no w1.1 q (by decide), fun q => no w1.1 q (by decide)⟩
    · exact ⟨fun _ => ⟨w1.2, w2, w4⟩, fun q => no w1.1 q (by decide), fun q => no w1.1 q (by decide), fun q => no w1.1 q (by decide), fun q => no w1.1 q (by decide), fun q => no w1.1 q (by decide)⟩
  · exact ⟨fun q => no w1 q (by decide), fun q => no w1 q (by decide), fun q => no w1 q (by decide), fun q => no w1 q (by decide), fun q => no w1 q (by decide), fun q => no w1 q (by decide)⟩
  · rcases w1 with w1 | w1 | w1
    · exact ⟨fun q => no w1.1 q (by decide), fun _ => ⟨w1.2, w2, w3, w4.2.2⟩, fun q => no w1.1 q (by decide), fun q => no w1.1 q (by decide), fun q => no w1.1 q (by decide), fun q => no w1.1 q (by decide)⟩
    · exact ⟨fun q => no w1.1 q (by decide), fun q => no w1.1 q (by decide), fun _ => ⟨w1.2, w2, w3, w4.2.2⟩, fun q => no w1.1 q (by decide), fun q => no w1.1 q (by decide), fun q => no w1.1 q (by decide)⟩
    · exact ⟨fun q => no w1.1 q (by decide), fun q => no w1.1 q (by decide), fun q => no w1.1 q (by decide), fun _ => ⟨w1.2, w2, w3, w4.2.2⟩, fun q => no w1.1 q (by decide), fun q => no w1.1 q (by decide)⟩
  · exact ⟨fun q => no w1 q (by decide), fun q => no w1 q (by decide), fun q => no w1 q (by decide), fun q => no w1 q (by decide), fun _ => ⟨w2, w3, w4, w5.2.2⟩, fun q => no w1 q (by decide)⟩
  · exact ⟨fun q => no w1 q (by decide), fun q => no w1 q (by decide), fun q => no w1 q (by decide), fun q => no w1 q (by decide), fun q => no w1 q (by decide), fun q => no w1 q (by decide)⟩
  · exact ⟨fun q => no w1 q (by decide), fun q => no w1 q (by decide), fun q => no w1 q (by decide), fun q => no w1 q (by decide), fun q => no w1 q (by decide), fun _ => ⟨w2, w3, w4.2.2, w5⟩⟩
  · rcases w1 with w1 | w1 | w1 <;> exact ⟨fun q => no w1.1 q (by decide), fun q => no w1.1 q (by decide), fun q => no w1.1 q (by decide), fun q => no w1.1 q (by decide), fun q => no w1.1 q (by decide), fun q => no w1.1 q (by decide)⟩
  · exact ⟨fun q => no w1 q (by decide), fun q => no w1 q (by decide), fun q => no w1 q (by decide), fun q => no w1 q (by decide), fun q => no w1 q (by decide), fun q => no w1 q (by decide)⟩
  · exact ⟨fun q => no w1 q (by decide), fun q => no w1 q (by decide), fun q => no w1 q (by decide), fun q => no w1 q (by decide), fun q => no w1 q (by decide), fun q => no w1 q (by decide)⟩
theorem pl_sayM {p y b k e l rw : Nat} {kk : Int32} {u : zS} (hp : p < 2600) (hy : y < 1000) (h51 : u 51 p = Int32.ofNat b) (h16 : u 16 y = Int32.ofNat k) (hbk : b + k < 24000) (h53 : u 53 (b + k) = Int32.ofNat e) (he : e < 3400) (h14 : u 14 y = kk) (hkk : kk = 1 ∨ kk = 3 ∨ kk = 5) (h56 : u 56 (zflp e) = Int32.ofNat l) (h73 : u 0 73 = Int32.ofNat rw) (hl : l ≤ 8) (hrw : rw ≤ 8) : mX12_act (Int32.ofNat p) (Int32.ofNat y) u = if l = rw then some (0, u) else bX12_act_110 (Int32.ofNat p) (Int32.ofNat y) (Int32.ofNat b) (Int32.ofNat e) kk u := by
  have hz : zflp e < 3500 := by unfold zflp; omega
  have e61 : bX12_act_61 (Int32.ofNat p) (Int32.ofNat y) (Int32.ofNat b) (Int32.ofNat e) kk u = if l = rw then some (0, u) else bX12_act_110 (Int32.ofNat p) (Int32.ofNat y) (Int32.ofNat b) (Int32.ofNat e) kk u := by
    unfold bX12_act_61 bX12_act_79
    rw [(zb_x e (by omega)).1, zn_rd hz (by decide), h56, h73]
    by_cases c : l = rw
    · rw [if_pos c, if_pos (by rw [c])]
    · rw [if_neg c, if_neg (fun w => c ((zn_inj (by omega) (by omega)).mp w))]
      rcases hkk with q | q | q <;> rw [q] <;> rfl
  unfold mX12_act bX12_act_33
  rw [zn_rd hp (by decide), h51, zn_rd (by omega) (by decide), h16, if_neg (zn_neg (by omega)), zn_rd (by omega) (by decide), h16, zn_add, zn_rd hbk (by decide), h53, zn_rd (by omega) (by decide), h14, e61]
  rcases hkk with q | q | q <;> rw [q] <;> rfl
theorem pl_hearM {p y b k e l : Nat} {kk : Int32} {u : zS} (hp : p < 2600) (hy : y < 1000) (h51 : u 51 p = Int32.ofNat b) (h16 : u 16 y = Int32.ofNat k) (hbk : b + k < 24000) (h53 : u 53 (b + k) = Int32.ofNat e) (he : e < 3400) (h14 : u 14 y = kk) (hkk : kk = 2 ∨ kk = 4 ∨ kk = 6) (h18 : u 18 y = -1) (h56 : u 56 e = Int32.ofNat l) (hl : l ≤ 8) : mX12_act (Int32.ofNat p) (Int32.ofNat y) u = if l = 0 then some (0, u) else bX12_act_148 (Int32.ofNat p) (Int32.ofNat y) (Int32.ofNat b) (Int32.ofNat e) kk 0 u := by
  have e98 : bX12_act_98 (Int32.ofNat p) (Int32.ofNat y) (Int32.ofNat b) (Int32.ofNat e) kk u = if l = 0 then some (0, u) else bX12_act_148 (Int32.ofNat p) (Int32.ofNat y) (Int32.ofNat b) (Int32.ofNat e) kk 0 u := by
    unfold bX12_act_98 bX12_act_110
    rw [zn_rd (by omega) (by decide), h56, zn_rd (by omega) (by decide), h18, if_pos (show (-1 : Int32) < 0 by decide)]
    by_cases c : l = 0
    · rw [if_pos c, if_pos (by rw [c]; rfl)]
    · rw [if_neg c, if_neg (show ¬ Int32.ofNat l = 0 from fun w => c ((zn_inj (b := 0) (by omega) (by decide)).mp w))]
  unfold mX12_act bX12_act_33 bX12_act_79
  rw [zn_rd hp (by decide), h51, zn_rd (by omega) (by decide), h16, if_neg (zn_neg (by omega)), zn_rd (by omega) (by decide), h16, zn_add, zn_rd hbk (by decide), h53, zn_rd (by omega) (by decide), h14, e98]
  rcases hkk with q | q | q <;> rw [q] <;> rfl
/-- nothing happens -/
theorem zWait {G : zTxt} {f : Nat → Nat} {N Q pm m : Nat} {Rg : Nat → Nat} {pq fp ql Y fq : Nat → Nat} {fr fd fc fk rw mem lim : Nat} {sp ac : Nat → Int32} {num H MC MR : zS} {t0 g t u : zS} (h : zDyn G f N Q t0 g pm m Rg pq fr fd fp sp ac num H Y ql MC MR fc fk rw fq mem lim t u) (h16 : t 7 16 = 0 ∧ u 0 72 = 0) : zAo G f N Q t0 g pm m Rg t u (some (0, t)) (some (0, u)) := ⟨0, t, u, m, Rg, rfl, rfl, Or.inl rfl, zFa_refl t, zFb_refl u, Nat.le_refl _, fun _ _ => rfl, by rw [h16.1, h16.2], Or.inl rfl, _, _, _, _, _, _, _, _, _, _, _, _, _, _, _, _, _, _, h⟩
/-- the class's part that send, pass and pick share -/
theorem pl_sayC {D : zCo} {n : Nat → Nat} {m p y k e : Nat} {R pq : Nat → Nat} {fr fd : Nat} {fp : Nat → Nat} {sp ac : Nat → Int32} {num H t : zS} {Y ql : Nat → Nat} {MC : zS} {fc fk rw : Nat} {fq : Nat → Nat} {kk : Int32} (hA : zAC n m R pq fr fd fp sp ac num H t) (hB : zBC D Y ql MC fc fk rw fq t) (hp : zIn m R p) (hp2 : p < 2501) (hy : y < 1000) (h87 : t 87 y = kk) (hkk : kk = 2 ∨ kk = 4 ∨ kk = 6) (h91 : t 91 y = Int32.ofNat k) (hk : k < n (pq p)) (hH : H p k = Int32.ofNat e) (he : e < 2 * fc) (hf : fc ≤ 1667) (hl : ql (zflp e) ≤ rw) (hr : rw ≤ 8) : mX4_act (Int32.ofNat p) (Int32.ofNat y) t = if ql (zflp e) = rw then some (0, t) else zbd (if kk = 6 then zbd (mX0_add (Int32.ofNat (zflp e)) (t 93 y) t) fun r1959 t1960 => bX4_say_168 (Int32.ofNat p) (Int32.ofNat y) t1960 else if kk = 4 then zbd (mX8_channel (Int32.ofNat p) (t 93 y) t) fun r1950 t1951 => zbd (mX0_add (Int32.ofNat (zflp e)) r1950 t1951) fun r1953 t1954 => zbd (mX8_setChannel (Int32.ofNat p) (t 93 y) (-1) t1954) fun r1956 t1957 => bX4_say_168 (Int32.ofNat p) (Int32.ofNat y) t1957 else zbd (mX4_work (Int32.ofNat p) (t 95 y) (t 97 y) t) fun r1944 t1945 => if r1944 = 0 then some (0, t1945) else zbd (mX0_add (Int32.ofNat (zflp e)) (t1945 51 8) t1945) fun r1947 t1948 => bX4_say_168 (Int32.ofNat p) (Int32.ofNat y) t1948) fun r t => z01 r (some (r, t)) := by
  obtain ⟨z1, _, _⟩ := zflp_lt he
  have full := (zFullC hB z1 hf hl hr).1
  have ch : mX8_channel (Int32.ofNat p) (Int32.ofNat k) t = some (Int32.ofNat e, t) := by rw [← hH]; exact zCh_get hA.2.2.2.2.2.2 hp hp2 hk
  have act : mX4_act (Int32.ofNat p) (Int32.ofNat y) t = zbd (mX4_say (Int32.ofNat p) (Int32.ofNat y) t) fun r t => z01 r (some (r, t)) := by
    unfold mX4_act
    rw [zn_get hy (by decide), pl_bd, show t (86 + 1) y = kk from h87]
    rcases hkk with q | q | q <;> rw [q] <;> rfl
  rw [act]
  unfold mX4_say
  rw [zn_get hy (by decide), pl_bd, zn_get hy (by decide), pl_bd, zn_get hy (by decide), pl_bd, show t (90 + 1) y = Int32.ofNat k from h91, ch, pl_bd, pl_let, (zb_x e (by omega)).1, full, pl_bd, show t (86 + 1) y = kk from h87]
  by_cases c : ql (zflp e) = rw
  · rw [if_pos c, if_pos c, if_neg pl_10]
    rfl
  · rw [if_neg c, if_neg c, if_pos rfl, zn_get hy (by decide), pl_bd, zn_get hy (by decide), pl_bd]
