/-! CHECK: the states that slots have -/
/-- a slot's state on both sides -/
def zRs (D : zCo) (N : Nat) (t : zS) (f : Nat → Nat) (x y : Int32) : Prop := (x = -1 ∧ y = -1) ∨ ∃ a b, zV N t a ∧ zV N t b ∧ ¬ D.kd a = 0 ∧ zEq D a b ∧ x = Int32.ofNat a ∧ y = Int32.ofNat (zF f b)
def zRw (f : Nat → Nat) (N n d : Nat) (t u : zS) : Prop := ∀ k, k < n → zRs (zD t) N t f (t 58 k) (u 42 (1500 * d + k))
theorem zRs_neg {G : zTxt} {f : Nat → Nat} {N M P A T : Nat} {t u : zS} {x y : Int32} (h : zTG G f N M P A T t u) (hr : zRs (zD t) N t f x y) : (x < 0 ∧ y < 0 ∧ ¬ 0 ≤ x ∧ ¬ 0 ≤ y ∧ x = -1 ∧ y = -1) ∨ (¬ x < 0 ∧ ¬ y < 0 ∧ 0 ≤ x ∧ 0 ≤ y ∧ ∃ a b, zV N t a ∧ zV N t b ∧ ¬ (zD t).kd a = 0 ∧ zEq (zD t) a b ∧ x = Int32.ofNat a ∧ y = Int32.ofNat (zF f b)) := by
  rcases hr with ⟨a, b⟩ | ⟨a, b, v1, v2, v3, v4, v5, v6⟩
  · exact Or.inl ⟨by rw [a]; decide, by rw [b]; decide, by rw [a]; decide, by rw [b]; decide, a, b⟩
  · have l1 := zV_lt h v1
    obtain ⟨l2, _, _⟩ := zF_lt h v2.1
    exact Or.inr ⟨by rw [v5]; exact zn_neg (by omega), by rw [v6]; exact zn_neg (by omega), by rw [v5]; exact zn_0le (by omega), by rw [v6]; exact zn_0le (by omega), a, b, v1, v2, v3, v4, v5, v6⟩
theorem zn_15 (d k : Nat) : 1500 * Int32.ofNat d + Int32.ofNat k = Int32.ofNat (1500 * d + k) := by
  show Int32.ofNat 1500 * Int32.ofNat d + Int32.ofNat k = _
  rw [zn_mul, zn_add]
theorem pl_channel {d k : Nat} {u : zS} (hd : d ≤ 43) (hk : k < 1500) : mX12_channel (Int32.ofNat d) (Int32.ofNat k) u = some (u 42 (1500 * d + k), u) := by
  unfold mX12_channel
  rw [zn_15, zn_rd (by omega) (by decide)]
/-- a slot gets a state -/
theorem pl_hold {G : zTxt} {f : Nat → Nat} {N M P A T k s : Nat} {t u : zS} (h : zTG G f N M P A T t u) (hb : zBg T t) (hk : k < 80000) (hs : s / 2 < N) : mX1_hold (Int32.ofNat k) (Int32.ofNat s) t = some (if (zD t).kd (zSg2 t s) = 0 then 1 else 0, zu t 58 k (if (zD t).kd (zSg2 t s) = 0 then -1 else Int32.ofNat (zSg2 t s))) := by
  have hv := zV_sg h hs
  have hl := zV_lt h hv
  unfold mX1_hold bX1_hold_25 bX1_hold_42
  rw [pl_settled h hb hs, pl_bd, pl_kindOf hl, pl_bd]
  by_cases c : (zD t).kd (zSg2 t s) = 0
  · rw [if_pos c, if_pos c, if_pos c, if_neg pl_10, zn_set hk (by decide), pl_bd, if_neg pl_10]
  · rw [if_neg c, if_neg c, if_neg c, if_pos rfl, zn_set hk (by decide), pl_bd, if_pos rfl]
theorem zKm_0 {G : zTxt} {f : Nat → Nat} {N M P A T s : Nat} {t u : zS} (h : zTG G f N M P A T t u) (hv : zV N t s) : zKm ((zD t).kd s) = 0 ↔ (zD t).kd s = 0 := by
  rcases zV_at h hv with ⟨q, _⟩ | ⟨q, _⟩ | ⟨q, _⟩ | ⟨q, _⟩
  · rw [q]; decide
  · rcases q with q | q <;> rw [q] <;> decide
  · rcases q with q | q <;> rw [q] <;> decide
  · rcases q with q | q <;> rw [q] <;> decide
theorem pl_setCh {G : zTxt} {f : Nat → Nat} {N M P A T d k s : Nat} {t u : zS} (h : zTG G f N M P A T t u) (hd : d ≤ 43) (hk : k < 1500) (hv : zV N t s) : mX12_setChannel (Int32.ofNat d) (Int32.ofNat k) (Int32.ofNat (zF f s)) u = some (0, zu u 42 (1500 * d + k) (if (zD t).kd s = 0 then -1 else Int32.ofNat (zF f s))) := by
  unfold mX12_setChannel bX12_setChannel_24
  rw [pl_isOf h hv, pl_bd, zn_15, zn_wr (by omega) (by decide), zn_wr (by omega) (by decide)]
  by_cases c : (zD t).kd s = 0
  · rw [if_pos ((zKm_0 h hv).mpr c), if_pos c]
  · rw [if_neg (fun w => c ((zKm_0 h hv).mp w)), if_neg c]
/-- what both then hold -/
theorem zRs_new {N a b : Nat} {f : Nat → Nat} {t : zS} (ha : zV N t a) (hb : zV N t b) (he : zEq (zD t) a b) : zRs (zD t) N t f (if (zD t).kd a = 0 then -1 else Int32.ofNat a) (if (zD t).kd b = 0 then -1 else Int32.ofNat (zF f b)) := by
  have ek := (zEq_sm he).1
  by_cases c : (zD t).kd a = 0
  · rw [if_pos c, if_pos (by rw [← ek]; exact c)]
    exact Or.inl ⟨rfl, rfl⟩
  · rw [if_neg c, if_neg (by rw [← ek]; exact c)]
    exact Or.inr ⟨a, b, ha, hb, c, he, rfl, rfl⟩
theorem zRw_set {f : Nat → Nat} {N n d k : Nat} {t u : zS} {x y : Int32} (h : zRw f N n d t u) (hr : zRs (zD t) N t f x y) : zRw f N n d (zu t 58 k x) (zu u 42 (1500 * d + k) y) := by
  have tr : zTr t (zu t 58 k x) := ⟨zu_row (by decide), zu_row (by decide), zu_row (by decide), zu_row (by decide), zu_row (by decide), zu_row (by decide), zu_row (by decide), zu_row (by decide), zu_row (by decide), zu_ne1 (by decide), zu_ne1 (by decide), zu_ne1 (by decide)⟩
  have eD := zD_of tr
  have go : ∀ x' y', zRs (zD t) N t f x' y' → zRs (zD (zu t 58 k x)) N (zu t 58 k x) f x' y' := fun x' y' w => by
    rw [eD]
    rcases w with w | ⟨a, b, v1, v2, v3⟩
    · exact Or.inl w
    · exact Or.inr ⟨a, b, (zV_of tr _).mpr v1, (zV_of tr _).mpr v2, v3⟩
  intro j hj
  by_cases e : j = k
  · subst e
    rw [zu_same, zu_same]; exact go _ _ hr
  · rw [zu_ne2 e, zu_ne2 (by omega)]; exact go _ _ (h j hj)
/-! no NAME of an EXPRESSION is a channel -/
theorem pl_areNo {n hb E cb : Nat} {K V : Nat → Int32} {u : zS} {d : Int32} (hcb : cb < 8999) : ∀ (l F c h c2 h2 fv : Nat), zSg K V (u 27) n hb l F c h c2 h2 → c2 ≤ cb → u 27 c2 = 0 → F + l = E → lX12_areNumbers_5 (fv + l + 1) d 0 (Int32.ofNat c) u = some (0, u) := by
  intro l
  induction l with
  | zero =>
    intro F c h c2 h2 fv hs hc h0 hE
    obtain ⟨e1, e2⟩ := hs
    subst e1
    show bX12_areNumbers_5 _ _ _ _ u = _
    unfold bX12_areNumbers_5
    rw [zn_rd (by omega) (by decide), if_pos h0]
    rfl
  | succ l ih =>
    intro F c h c2 h2 fv hs hc h0 hE
    obtain ⟨c1, h1, s1, s2⟩ := hs
    have lc1 := (zS1_le s1)
    have lc2 := zSg_le l s2
    have r := ih (F + 1) c1 h1 c2 h2 fv s2 hc h0 (by omega)
    show bX12_areNumbers_5 (lX12_areNumbers_5 (fv + l + 1)) _ _ _ u = _
    unfold bX12_areNumbers_5 bX12_areNumbers_57 bX12_areNumbers_58 bX12_areNumbers_83 bX12_areNumbers_88
    simp only [zn_rd (show c < 9000 by omega) (show 9000 < 2147483648 by decide), pl_let]
    have kind : ∃ y, u 27 c = y ∧ ¬ y = 0 ∧ c1 = c + (if y = 1 ∨ y = 2 then 2 else 1) := by
      rcases s1 with ⟨_, q, _, q2, _⟩ | ⟨_, q, _, q2, _⟩ | ⟨_, q, _, q2, _⟩ | ⟨q, _, q2, _⟩
      · exact ⟨1, q, by decide, by rw [if_pos (Or.inl rfl)]; exact q2⟩
      · exact ⟨2, q, by decide, by rw [if_pos (Or.inr rfl)]; exact q2⟩
      · exact ⟨3, q, by decide, by rw [if_neg (by decide)]; exact q2⟩
      · rcases q with ⟨q, q'⟩ | ⟨q, q'⟩
        · rcases q' with e | e | e | e | e | e <;> rw [e] at q <;> exact ⟨_, q.symm, by decide, by rw [if_neg (by decide)]; exact q2⟩
        · exact ⟨69, q', by decide, by rw [if_neg (by decide)]; exact q2⟩
    obtain ⟨y, e1, e2, e3⟩ := kind
    rw [e1, if_neg e2, if_pos trivial]
    by_cases q1 : y = 1
    · rw [if_pos q1]
      rw [if_pos (Or.inl q1)] at e3
      rw [show Int32.ofNat c + 2 = Int32.ofNat (c + 2) from zn_add c 2, ← e3]
      exact r
    · rw [if_neg q1]
      by_cases q2 : y = 2
      · rw [if_pos q2]
        rw [if_pos (Or.inr q2)] at e3
        rw [show Int32.ofNat c + 2 = Int32.ofNat (c + 2) from zn_add c 2, ← e3]
        exact r
      · rw [if_neg q2]
        rw [if_neg (fun w => w.elim q1 q2)] at e3
        rw [zn_1, ← e3]
        exact r
theorem zWithoutL {G : zTxt} {f : Nat → Nat} {N M P A T n hb E cb d : Nat} {t u : zS} (hg : zTG G f N M P A T t u) (hr : zRw f N n d t u) (hd : d ≤ 43) (hn : n ≤ 1500) (hE3 : E ≤ 3000) (hcb : cb < 8999) : ∀ (l F c h c2 h2 fu fv : Nat), zSg (t 75) (t 77) (u 27) n hb l F c h c2 h2 → c2 ≤ cb → u 27 c2 = 0 → F + l = E → ∃ b, (b = 0 ∨ b = 1) ∧ lX3_isWithout_3 (fu + l + 1) (Int32.ofNat E) (Int32.ofNat F) t = some (b, t) ∧ lX12_areNumbers_5 (fv + l + 1) (Int32.ofNat d) 1 (Int32.ofNat c) u = some (b, u) := by
  intro l
  induction l with
  | zero =>
    intro F c h c2 h2 fu fv hs hc h0 hE
    obtain ⟨e1, e2⟩ := hs
    subst e1
    refine ⟨1, Or.inr rfl, ?_, ?_⟩
    · show bX3_isWithout_3 _ _ _ t = _
      unfold bX3_isWithout_3
      rw [if_pos ((zn_le (by omega) (by omega)).mpr (by omega))]
    · show bX12_areNumbers_5 _ _ _ _ u = _
      unfold bX12_areNumbers_5
      rw [zn_rd (by omega) (by decide), if_pos h0]
      rfl
  | succ l ih =>
    intro F c h c2 h2 fu fv hs hc h0 hE
    have hs0 := hs
    obtain ⟨c1, h1, s1, s2⟩ := hs
    have lc1 := (zS1_le s1)
    have lc2 := zSg_le l s2
    have g74 : mX5_get 74 3000 (Int32.ofNat F) t = some (t 75 F, t) := zn_get (by omega) (by decide)
    have g76 : mX5_get 76 3000 (Int32.ofNat F) t = some (t 77 F, t) := zn_get (by omega) (by decide)
    have cC : lX3_isWithout_3 (fu + (l + 1) + 1) (Int32.ofNat E) (Int32.ofNat F) t = if t 75 F = 17 then zbd (mX5_get 57 80000 (t 77 F) t) fun r1135 t1136 => if r1135 < 0 then lX3_isWithout_3 (fu + l + 1) (Int32.ofNat E) (Int32.ofNat (F + 1)) t1136 else some (0, t1136) else lX3_isWithout_3 (fu + l + 1) (Int32.ofNat E) (Int32.ofNat (F + 1)) t := by
      show bX3_isWithout_3 (lX3_isWithout_3 (fu + l + 1)) _ _ t = _
      unfold bX3_isWithout_3 bX3_isWithout_41
      rw [if_neg (show ¬ Int32.ofNat E ≤ Int32.ofNat F by rw [zn_le (by omega) (by omega)]; omega), g74, pl_bd, g76, pl_bd]
      simp only [pl_let, zn_1]
    have cM : ∀ y : Int32, u 27 c = y → ¬ y = 0 → lX12_areNumbers_5 (fv + (l + 1) + 1) (Int32.ofNat d) 1 (Int32.ofNat c) u = if y = 2 then zrd u 27 9000 (Int32.ofNat (c + 1)) fun v => zrd u 42 66000 (1500 * Int32.ofNat d + v) fun v2 => lX12_areNumbers_5 (fv + l + 1) (Int32.ofNat d) (if 0 ≤ v2 then 0 else 1) (Int32.ofNat (c + 2)) u else lX12_areNumbers_5 (fv + l + 1) (Int32.ofNat d) 1 (Int32.ofNat (c + (if y = 1 then 2 else 1))) u := fun y e1 e2 => by
      show bX12_areNumbers_5 (lX12_areNumbers_5 (fv + l + 1)) _ _ _ u = _
      unfold bX12_areNumbers_5 bX12_areNumbers_57 bX12_areNumbers_53 bX12_areNumbers_58 bX12_areNumbers_83 bX12_areNumbers_88
      simp only [zn_rd (show c < 9000 by omega) (show 9000 < 2147483648 by decide), pl_let, zn_1, show Int32.ofNat c + 2 = Int32.ofNat (c + 2) from zn_add c 2]
      rw [e1, if_neg e2, if_neg pl_10]
      by_cases q2 : y = 2
      · subst q2
        have n21 : ¬ (2 : Int32) = 1 := by decide
        simp only [n21, if_true, if_false]
        congr 1
        funext v
        congr 1
        funext v2
        by_cases q3 : 0 ≤ v2
        · rw [if_pos q3, if_pos q3]
        · rw [if_neg q3, if_neg q3]
      · simp only [q2, if_false]
        by_cases q1 : y = 1
        · simp only [q1, if_true]
        · simp only [q1, if_false]
    have plain : ∀ y : Int32, u 27 c = y → ¬ y = 0 → ¬ y = 2 → ¬ t 75 F = 17 → c1 = c + (if y = 1 then 2 else 1) → ∃ b, (b = 0 ∨ b = 1) ∧ lX3_isWithout_3 (fu + (l + 1) + 1) (Int32.ofNat E) (Int32.ofNat F) t = some (b, t) ∧ lX12_areNumbers_5 (fv + (l + 1) + 1) (Int32.ofNat d) 1 (Int32.ofNat c) u = some (b, u) := fun y e1 e2 e3 e4 e5 => by
      rw [cC, cM y e1 e2, if_neg e4, if_neg e3, ← e5]
      exact ih (F + 1) c1 h1 c2 h2 fu fv s2 hc h0 (by omega)
    rcases s1 with ⟨k1, q, _, q2, _⟩ | ⟨k1, q, ⟨k, x1, x2, x3⟩, q2, _⟩ | ⟨k1, q, _, q2, _⟩ | ⟨q, _, q2, _⟩
    · exact plain 1 q (by decide) (by decide) (by rw [k1]; decide) (by rw [if_pos rfl]; exact q2)
    · have g57 : mX5_get 57 80000 (t 77 F) t = some (t 58 k, t) := by rw [x2]; exact zn_get (by omega) (by decide)
      rw [cC, cM 2 q (by decide), if_pos k1, if_pos rfl, g57, pl_bd, zn_rd (by omega) (by decide), x3, zn_15, zn_rd (by omega) (by decide), ← q2]
      rcases zRs_neg hg (hr k x1) with ⟨n1, _, _, n2, _⟩ | ⟨n1, _, _, n2, _⟩
      · rw [if_pos n1, if_neg n2]
        exact ih (F + 1) c1 h1 c2 h2 fu fv s2 hc h0 (by omega)
      · rw [if_neg n1, if_pos n2]
        exact ⟨0, Or.inl rfl, rfl, pl_areNo (E := E) hcb l (F + 1) c1 h1 c2 h2 fv s2 hc h0 (by omega)⟩
    · exact plain 3 q (by decide) (by decide) (by rw [k1]; decide) (by rw [if_neg (by decide)]; exact q2)
    · have k17 : ¬ t 75 F = 17 := by
        rcases q with ⟨_, q⟩ | ⟨q, _⟩
        · rcases q with e | e | e | e | e | e <;> rw [e] <;> decide
        · rw [q]; decide
      rcases q with ⟨q, q'⟩ | ⟨q, q'⟩
      · rcases q' with e | e | e | e | e | e <;> rw [e] at q <;> exact plain _ q.symm (by decide) (by decide) k17 (by rw [if_neg (by decide)]; exact q2)
      · exact plain 69 q' (by decide) (by decide) k17 (by rw [if_neg (by decide)]; exact q2)
/-- an EXPRESSION's NAMES -/
theorem zWithout {G : zTxt} {f : Nat → Nat} {N M P A T n d q F C : Nat} {x y z : Int32} {t u : zS} (hg : zTG G f N M P A T t u) (hr : zRw f N n d t u) (hd : d ≤ 43) (hn : n ≤ 1500) (hm : zFm t u q F C x y z) (h39 : t 39 q = Int32.ofNat n) (hF : F ≤ 3000) (hC : C ≤ 8000) : ∃ b, (b = 0 ∨ b = 1) ∧ mX3_isWithout x y t = some (b, t) ∧ mX12_areNumbers z (Int32.ofNat d) u = some (b, u) := by
  obtain ⟨a, l, c, c2, m, e1, e2, e3, e4, e5, e6, e7, e8, e9, e10⟩ := hm
  have em : m = n := by
    rw [h39] at e7
    exact ((zn_inj (by omega) (by omega)).mp e7).symm
  subst em
  have hl := zSg_le l e9
  obtain ⟨b, b1, b2, b3⟩ := zWithoutL (E := a + l) (cb := 8000) hg hr hd hn (by omega) (by decide) l a c 0 c2 1 (zFU - l - 1) (zFU - l - 1) e9 (by omega) e10 rfl
  rw [show zFU - l - 1 + l + 1 = zFU by unfold zFU; omega] at b2 b3
  refine ⟨b, b1, ?_, ?_⟩
  · rw [e1, e2]; exact b2
  · rw [e3]; exact b3
