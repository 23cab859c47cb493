/-! CHECK: statements that hold no others -/
def zGn (g : zS) (s : Nat) (r r2 : Nat → Int32) (b : Int32) : zS := fun k j => if k = s then r j else if k = 2000 + s then r2 j else if k = 6000 + s then (if j = 0 then b else if j = 2 then 1 else g k j) else g k j
theorem zGn_at {g : zS} {s : Nat} {r r2 : Nat → Int32} {b : Int32} (hs : s < 1000) : zGn g s r r2 b s = r ∧ zGn g s r r2 b (2000 + s) = r2 ∧ zGn g s r r2 b (6000 + s) 0 = b ∧ zGn g s r r2 b (6000 + s) 2 = 1 := by
  refine ⟨?_, ?_, ?_, ?_⟩
  · funext j
    unfold zGn
    rw [if_pos rfl]
  · funext j
    unfold zGn
    rw [if_neg (by omega), if_pos rfl]
  · unfold zGn
    rw [if_neg (by omega), if_neg (by omega), if_pos rfl, if_pos rfl]
  · unfold zGn
    rw [if_neg (by omega), if_neg (by omega), if_pos rfl, if_neg (by decide), if_pos rfl]
theorem zGn_ne {g : zS} {s x : Nat} {r r2 : Nat → Int32} {b : Int32} (hs : s < 1000) (hx : x < 1000) (h : ¬ x = s) : zGs g (zGn g s r r2 b) x := by
  refine ⟨?_, ?_, ?_⟩
  · funext j
    unfold zGn
    rw [if_neg h, if_neg (by omega), if_neg (by omega)]
  · funext j
    unfold zGn
    rw [if_neg (by omega), if_neg (by omega), if_neg (by omega)]
  · funext j
    unfold zGn
    rw [if_neg (by omega), if_neg (by omega), if_neg (by omega)]
theorem zLeaf {w : Nat → Nat} {f : Nat → Nat} {N Q S n d kp s : Nat} {t u g t2 u2 : zS} {b : Int32} (hS : S ≤ 1000) (hs : s < S) (hb : b = 0 ∨ b = 1) (h1 : zC1 N n d s t u t2 u2) (h67 : u2 0 67 = -1) (hr : zRw f N n d t2 u2) (hv : ∀ x, x < S → zSub t s x → ¬ zVis g x) (ha : zAn0 (zD t) N Q n t2 (zGn g s (t 58) (t2 58) b) s) : zStG w f N Q S n d kp s t u g b t2 u2 (zGn g s (t 58) (t2 58) b) := by
  obtain ⟨a1, a2, a3, a4, a5, a6, a7, a8, a9, a10, a11⟩ := h1
  obtain ⟨g1, g2, g3, g4⟩ := zGn_at (g := g) (r := t 58) (r2 := t2 58) (b := b) (show s < 1000 by omega)
  have ne : ∀ x, ¬ (zSub t s x ∧ x < S) → ¬ x = s := fun x q e => q (by rw [e]; exact ⟨zSub_refl t s, hs⟩)
  refine ⟨hb, ⟨a1, a2, a4, h67, a5, a6, fun k k1 _ => a7 k k1, fun k hk => a11 k (Or.inl hk), fun k _ => by rw [a10], fun x hx q => ⟨a8 x (ne x q), zGn_ne (by omega) hx (ne x q)⟩, fun e _ _ => by rw [a9]⟩, a3, hr, g1, g2, g3, g4, ha, fun x q1 q2 q3 q4 => ?_⟩
  have gs := zGn_ne (g := g) (r := t 58) (r2 := t2 58) (b := b) (show s < 1000 by omega) (show x < 1000 by omega) q2
  refine absurd ?_ (hv x q3 q1)
  unfold zVis at *
  rw [gs.2.2] at q4
  exact q4
/-- the class behind the look at a statement -/
theorem pl_145b {g : GgX1_checkBlock} {s : Nat} {t : zS} {x2 x3 : Int32} (hs : s < 1000) : bX1_checkStatement_145 g (Int32.ofNat s) x2 x3 0 t = some (0, zu t 6 6 (t 89 s)) := by
  unfold bX1_checkStatement_145 mX1_fail
  rw [if_pos rfl, show mX5_get 88 1000 (Int32.ofNat s) t = some (t 89 s, t) from zn_get hs (by decide), pl_bd, pl_pt, pl_bd]
theorem pl_145g {g : GgX1_checkBlock} {s : Nat} {t : zS} {x2 x3 : Int32} (h : ¬ (x3 = 7 ∨ x3 = 10 ∨ x3 = 12)) : bX1_checkStatement_145 g (Int32.ofNat s) x2 x3 1 t = some (if x3 = 9 then 1 else 0, t) := by
  unfold bX1_checkStatement_145 bX1_checkStatement_199
  rw [if_neg pl_10, if_neg (fun q => h (Or.inl q)), if_neg (fun q => h (Or.inr (Or.inl q))), if_neg (fun q => h (Or.inr (Or.inr q)))]
  by_cases c : x3 = 9
  · rw [if_pos c, if_pos c]
  · rw [if_neg c, if_neg c]
theorem zLeafS {gc : GgX1_checkBlock} {gm : GgX12_checkBlock} {G : zTxt} {f : Nat → Nat} {N M P A T Q Pa bb S F C R W V n q d kp s : Nat} {o : Nat → Nat × Nat} {w : Nat → Nat} {t u g : zS} (hx : zCx G f N M P A T Q Pa bb S F C R W V o w t u) (hc : zCk f N n d q t u) (hs : s < S) (ho : o s = (d, q)) (hq : q < Q) (hv : ∀ x, x < S → zSub t s x → ¬ zVis g x) (hkd : ¬ (t 87 s = 7 ∨ t 87 s = 10 ∨ t 87 s = 12)) :
    ∃ b b' t2 u2 g2, mX1_checkStatement gc (Int32.ofNat s) (Int32.ofNat d) t = some (b, t2) ∧ mX12_checkOne gm (Int32.ofNat s) (Int32.ofNat d) u = some (b', u2) ∧ (zBadC t u b t2 u2 ∨ (t 87 s = 9 ∧ 0 ≤ t 99 s ∧ b = 1 ∧ b' = 1 ∧ t2 6 6 = -1 ∧ u2 0 67 = t 89 s ∧ zCf t t2 ∧ zCm u u2 ∧ t2 6 5 = t 6 5) ∨ (b' = b ∧ zStG w f N Q S n d kp s t u g b t2 u2 g2)) := by
  have hS := (zTre_x hx).1
  have hs1 : s < 1000 := by omega
  have hs16 : s < 1600 := by omega
  have hP := hx.2.2.2.1
  obtain ⟨⟨⟨p1, p2⟩, hst⟩, _, _, _⟩ := hP.2.2.2.2.2.2.2.2.2.2.2.2.2.2.2 s hs
  have g86 : mX5_get 86 1000 (Int32.ofNat s) t = some (t 87 s, t) := zn_get hs1 (by decide)
  have k66 : t 6 6 = -1 := hc.2.1
  obtain ⟨n1, n2, n3, n4⟩ := zGn_at (g := g) (r := t 58) (r2 := t 58) (b := 0) hs1
  unfold mX1_checkStatement
  rw [g86, pl_bd]
  by_cases h8 : t 87 s = 8 ∨ t 87 s = 9
  · obtain ⟨b, b', t2, u2, z1, z2, z3, z4, z5⟩ := zCallC hx hc hs (by rw [ho]) hq h8
    have eC : (if t 87 s = 8 then bX1_checkStatement_24 gc (Int32.ofNat s) (Int32.ofNat d) (t 87 s) t else if t 87 s = 9 then bX1_checkStatement_24 gc (Int32.ofNat s) (Int32.ofNat d) (t 87 s) t else if t 87 s = 7 then zbd (mX1_isGoodCase (Int32.ofNat s) t) fun r1517 t1518 => bX1_checkStatement_145 gc (Int32.ofNat s) (Int32.ofNat d) (t 87 s) r1517 t1518 else if t 87 s = 10 then bX1_checkStatement_99 gc (Int32.ofNat s) (Int32.ofNat d) (t 87 s) t else if t 87 s = 12 then bX1_checkStatement_99 gc (Int32.ofNat s) (Int32.ofNat d) (t 87 s) t else zbd (mX1_isGoodPlain (Int32.ofNat s) (t 87 s) t) fun r1514 t1515 => bX1_checkStatement_145 gc (Int32.ofNat s) (Int32.ofNat d) (t 87 s) r1514 t1515) = bX1_checkStatement_145 gc (Int32.ofNat s) (Int32.ofNat d) (t 87 s) b t2 := by
      rcases h8 with e | e
      · rw [if_pos e, z1]
      · rw [if_neg (by rw [e]; decide), if_pos e, z1]
    rw [eC]
    -- the reference
    have k14 : (t 87 s = 8 ∧ (u 14 s = 7 ∨ u 14 s = 8)) ∨ (t 87 s = 9 ∧ u 14 s = 9) := by
      rcases hst with ⟨e1, _⟩ | ⟨e1, _⟩ | ⟨e1, _⟩ | ⟨e1, _⟩ | ⟨e1, _⟩ | ⟨e1, _⟩ | ⟨e1, _⟩ | ⟨e1, _⟩ | ⟨e1, _⟩
      · exact absurd h8 (by rcases e1 with e | e <;> rw [e.1] <;> decide)
      · exact absurd h8 (by rw [e1]; decide)
      · exact absurd h8 (by rcases e1 with e | e | e <;> rw [e.1] <;> decide)
      · exact absurd h8 (by rw [e1]; decide)
      · exact absurd h8 (by rw [e1]; decide)
      · exact absurd h8 (by rw [e1]; decide)
      · rcases e1 with ⟨e, e', _⟩ | ⟨e, e', _⟩ | ⟨e, e', _⟩
        · exact Or.inl ⟨e, Or.inl e'⟩
        · exact Or.inl ⟨e, Or.inr e'⟩
        · exact Or.inr ⟨e, e'⟩
      · exact absurd h8 (by rw [e1]; decide)
      · exact absurd h8 (by rw [e1]; decide)
    have eM : mX12_checkOne gm (Int32.ofNat s) (Int32.ofNat d) u = bX12_checkOne_527 gm (Int32.ofNat s) b' u2 := by
      unfold mX12_checkOne
      rw [zn_rd hs16 (by decide), zn_rd hs16 (by decide), zn_rd hs16 (by decide), z2, pl_bd]
      rcases k14 with ⟨_, e | e⟩ | ⟨_, e⟩
      · rw [e, if_neg (by decide), if_neg (by decide), if_neg (by decide), if_neg (by decide), if_neg (by decide), if_neg (by decide), if_neg (by decide), if_pos rfl]
      · rw [e, if_neg (by decide), if_neg (by decide), if_neg (by decide), if_neg (by decide), if_neg (by decide), if_neg (by decide), if_neg (by decide), if_neg (by decide), if_pos rfl]
      · rw [e, if_neg (by decide), if_neg (by decide), if_neg (by decide), if_neg (by decide), if_neg (by decide), if_neg (by decide), if_neg (by decide), if_neg (by decide), if_neg (by decide), if_pos rfl]
    have r14 : u2 14 s = u 14 s := by rw [z3.2.1.2 14 (by decide)]
    have r15 : u2 15 s = t 89 s := by rw [z3.2.1.2 15 (by decide)]; exact p1.symm
    have e527b : bX12_checkOne_527 gm (Int32.ofNat s) 0 u2 = some (if t 87 s = 9 then 1 else 0, zu u2 0 67 (t 89 s)) := by
      unfold bX12_checkOne_527 mX12_isBad bX12_checkOne_542
      rw [if_pos rfl, zn_rd hs16 (by decide), if_neg (show ¬ 0 ≤ u2 0 67 by rw [z4]; decide), pl_pt, pl_bd, zn_rd hs16 (by decide), zu_ne1 (by decide), r14, r15]
      rcases k14 with ⟨e0, e | e⟩ | ⟨e0, e⟩
      · rw [e, e0, if_neg (by decide), if_neg (by decide)]
      · rw [e, e0, if_neg (by decide), if_neg (by decide)]
      · rw [e, e0, if_pos rfl, if_pos rfl]
    have e527g : bX12_checkOne_527 gm (Int32.ofNat s) 1 u2 = some (if t 87 s = 9 then 1 else 0, u2) := by
      unfold bX12_checkOne_527 bX12_checkOne_542
      rw [if_neg pl_10, zn_rd hs16 (by decide), r14]
      rcases k14 with ⟨e0, e | e⟩ | ⟨e0, e⟩
      · rw [e, e0, if_neg (by decide), if_neg (by decide)]
      · rw [e, e0, if_neg (by decide), if_neg (by decide)]
      · rw [e, e0, if_pos rfl, if_pos rfl]
    rw [eM]
    have n3' : ¬ (t 87 s = 7 ∨ t 87 s = 10 ∨ t 87 s = 12) := hkd
    rcases z5 with ⟨y1, y2⟩ | ⟨y1, y2, y3, y4⟩
    · rw [y1, y2, pl_145b hs1, e527b]
      refine ⟨0, _, _, _, g, rfl, rfl, Or.inl ⟨zCf_trans z3.1 (zCf_zu (Or.inr (Or.inr (Or.inr ⟨rfl, Or.inr rfl⟩)))), zCm_trans z3.2.1 (zCm_zu (Or.inr (Or.inr ⟨rfl, Or.inl rfl⟩))), Or.inl rfl, t 89 s, p2, by rw [zu_same, z3.1.2.2 89 (by decide)], zu_same _ _ _ _, by rw [zu_ne2 (by decide), z3.2.2.2.1]⟩⟩
    · rw [y1, pl_145g n3']
      rcases y4 with ⟨y4, y5⟩ | ⟨y4, y5, y6⟩
      · rw [y4, e527g]
        refine ⟨_, _, t2, u2, zGn g s (t 58) (t2 58) (if t 87 s = 9 then 1 else 0), rfl, rfl, Or.inr (Or.inr ⟨rfl, ?_⟩)⟩
        have hb : (if t 87 s = 9 then (1 : Int32) else 0) = 0 ∨ (if t 87 s = 9 then (1 : Int32) else 0) = 1 := by
          by_cases c : t 87 s = 9
          · rw [if_pos c]; exact Or.inr rfl
          · rw [if_neg c]; exact Or.inl rfl
        refine zLeaf hS hs hb z3 z4 y2 hv ?_
        obtain ⟨m1, m2, m3, m4⟩ := zGn_at (g := g) (r := t 58) (r2 := t2 58) (b := if t 87 s = 9 then 1 else 0) hs1
        unfold zAn0
        rw [z3.1.2.2 87 (by decide), m1, m2, m3]
        exact ⟨fun w => absurd (by rcases h8 with e | e; exact Or.inr (Or.inl e); exact Or.inr (Or.inr (Or.inl e))) w, fun _ => ⟨y3, rfl⟩, fun w => absurd (Or.inr (Or.inl w)) hkd, fun w => absurd (Or.inr (Or.inr w)) hkd, fun w => absurd (Or.inl w) hkd⟩
      · rw [y4, e527b, if_pos y5]
        exact ⟨1, 1, t2, _, g, rfl, rfl, Or.inr (Or.inl ⟨y5, y6, rfl, rfl, by rw [z3.2.2.2.1]; exact k66, zu_same _ _ _ _, z3.1, zCm_trans z3.2.1 (zCm_zu (Or.inr (Or.inr ⟨rfl, Or.inl rfl⟩))), by rw [z3.2.2.2.1]⟩)⟩
  · have nk : ¬ (t 87 s = 7 ∨ t 87 s = 8 ∨ t 87 s = 9 ∨ t 87 s = 10 ∨ t 87 s = 12) := fun w => by
      rcases w with w | w | w | w | w
      · exact hkd (Or.inl w)
      · exact h8 (Or.inl w)
      · exact h8 (Or.inr w)
      · exact hkd (Or.inr (Or.inl w))
      · exact hkd (Or.inr (Or.inr w))
    obtain ⟨b, t2, u2, z1, z2, z3, z4⟩ := zPlain gm hx hc hs (by rw [ho]) nk
    rw [if_neg (fun w => h8 (Or.inl w)), if_neg (fun w => h8 (Or.inr w)), if_neg (fun w => hkd (Or.inl w)), if_neg (fun w => hkd (Or.inr (Or.inl w))), if_neg (fun w => hkd (Or.inr (Or.inr w))), z1, pl_bd, z2]
    rcases z4 with ⟨y1, y2⟩ | ⟨y1, y2, y3, y4⟩
    · rw [y1, pl_145b hs1]
      exact ⟨0, 0, _, u2, g, rfl, rfl, Or.inl ⟨zCf_trans z3.1 (zCf_zu (Or.inr (Or.inr (Or.inr ⟨rfl, Or.inr rfl⟩)))), z3.2.1, Or.inl rfl, t 89 s, p2, by rw [zu_same, z3.1.2.2 89 (by decide)], y2, by rw [zu_ne2 (by decide), z3.2.2.2.1]⟩⟩
    · rw [y1, pl_145g hkd, if_neg (fun w => h8 (Or.inr w))]
      refine ⟨0, 0, t2, u2, zGn g s (t 58) (t2 58) 0, rfl, rfl, Or.inr (Or.inr ⟨rfl, zLeaf hS hs (Or.inl rfl) z3 y2 y3 hv ?_⟩)⟩
      obtain ⟨m1, m2, m3, m4⟩ := zGn_at (g := g) (r := t 58) (r2 := t2 58) (b := 0) hs1
      unfold zAn0
      rw [z3.1.2.2 87 (by decide), m1, m2, m3]
      exact ⟨fun _ => ⟨y4, rfl⟩, fun w => absurd w h8, fun w => absurd (Or.inr (Or.inl w)) hkd, fun w => absurd (Or.inr (Or.inr w)) hkd, fun w => absurd (Or.inl w) hkd⟩
