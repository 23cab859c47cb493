/-! STATEMENTS that hold others: branches and links -/
theorem zAt_kw {G : zTxt} {i k : Nat} {t u : zS} (h : zAt G i t u) (hk : k < 17) (hc : t 5 9 = Int32.ofNat k) : i < G.2.2.1 ∧ zltb (G.1 (zpos G.1 G.2.1 i)) = true ∧ G.2.2.2 i = k := by
  have hw := (zAt_w h).2.2.2
  have no : ∀ c : Nat, 17 ≤ c → c < 1000 → ¬ Int32.ofNat k = Int32.ofNat c := fun c c1 c2 e => by have := (zn_inj (by omega) (by omega)).mp e; omega
  have hi : i < G.2.2.1 := by
    rcases Nat.lt_or_ge i G.2.2.1 with q | q
    · exact q
    · have h3 : i ≤ G.2.2.1 := h.2.2.2.2.1
      have := hw.mpr (by omega)
      rw [hc] at this; exact absurd this (no 19 (by decide) (by decide))
  obtain ⟨b1, ⟨c1, c2, c3, c4⟩, b3⟩ := h.1.2.2.1 i hi
  have e9 : t 5 9 = t 67 (3 * i) := h.2.2.2.2.2.2.1
  rw [e9] at hc
  cases hl : zltb (G.1 (zpos G.1 G.2.1 i)) with
  | true =>
    obtain ⟨f1, f2⟩ := c2 hl
    refine ⟨hi, rfl, ?_⟩
    rw [hc] at f1
    by_cases q : G.2.2.2 i < 17
    · rw [if_pos q] at f1
      exact ((zn_inj (by omega) (by omega)).mp f1).symm
    · rw [if_neg q] at f1; exact absurd f1 (no 17 (by decide) (by decide))
  | false =>
    exfalso
    cases hd : zdig (G.1 (zpos G.1 G.2.1 i)) with
    | true =>
      have f1 := (c3 hl hd).1
      rw [hc] at f1
      by_cases q : zend G.1 G.2.1 (zpos G.1 G.2.1 i) - zpos G.1 G.2.1 i ≤ 9
      · rw [if_pos q] at f1; exact absurd f1 (no 18 (by decide) (by decide))
      · rw [if_neg q] at f1; exact absurd f1 (no 20 (by decide) (by decide))
    | false =>
      have f1 := (c4 hl hd).1
      unfold zsgk at f1
      rw [hc] at f1
      by_cases q : G.1 (zpos G.1 G.2.1 i) = 61 ∧ zpos G.1 G.2.1 i + 1 < G.2.1 ∧ G.1 (zpos G.1 G.2.1 i + 1) = 61
      · rw [if_pos q] at f1; exact absurd f1 (no 256 (by decide) (by decide))
      · rw [if_neg q] at f1
        by_cases q2 : G.1 (zpos G.1 G.2.1 i) ∈ zSgs
        · rw [if_pos q2] at f1
          rw [← f1] at q2; exact absurd q2 (zsg_k k hk)
        · rw [if_neg q2] at f1; exact absurd f1 (no 20 (by decide) (by decide))
theorem zKc_mono {G : zTxt} : ∀ (d i : Nat), zKc G i ≤ zKc G (i + d) := by
  intro d
  induction d with
  | zero => intro i; exact Nat.le_refl _
  | succ d ih =>
    intro i
    have := ih i
    exact Nat.le_trans this (Nat.le_add_right _ _)
theorem zKc_le {G : zTxt} {i j : Nat} (h : i ≤ j) : zKc G i ≤ zKc G j := by
  have := zKc_mono (G := G) (j - i) i
  rw [show i + (j - i) = j by omega] at this
  exact this
theorem zKc_kw {G : zTxt} {i k : Nat} {t u : zS} (h : zAt G i t u) (hk : k = 7 ∨ k = 10 ∨ k = 12) (hc : t 5 9 = Int32.ofNat k) : zKc G (i + 1) = zKc G i + 1 := by
  obtain ⟨a1, a2, a3⟩ := zAt_kw h (by omega) hc
  conv => lhs; unfold zKc
  rw [if_pos ⟨a1, a2, by omega⟩]
/-- a statement goes on with its BLOCKS -/
theorem zBB_under {G : zTxt} {i i2 d p b H : Nat} {f : Nat → Nat} {N M A S n F C R W V q n2 F2 C2 e : Nat} {o : Nat → Nat × Nat} {w : Nat → Nat} {Y Z : List Nat} {t0 u0 t u : zS} {hx : Int32} (h : zBB G i d p b H f N M A S n F C R W V q o w Y Z t0 u0) (hU : zUW G i i2 d p b H f N M A S n F C R W V q n2 F2 C2 o w t0 u0 t u) (hn : b + n ≤ i) (hS : S < 1000) (hH : zHd o S p e t0 hx) (he : e ≤ 39) (h101 : t 101 S = hx) (h107 : t 107 S = 0) (h87 : ¬ (t 87 S = 8 ∨ t 87 S = 9)) :
    zBB G i2 d p b H f N M A (S + 1) n2 F2 C2 R W V q (zuq o S (e, p)) w (S :: Y) (S :: Z) t u ∧ zBX p b H S n F C R W V q (S + 1) n2 F2 C2 R W V q o (zuq o S (e, p)) w w t0 u0 t u := by
  obtain ⟨a1, a2, a3, a4, a5, a6, a7, a8, a9, a10, a11, a12, a13, a14, a15, a16, a17⟩ := hU
  have hl := zAt_lt a1.1
  have ho : ∀ s, (s < S ∨ (10000 ≤ s ∧ s < 10000 + S)) → zuq o S (e, p) s = o s := fun s hs => zuq_ne (by omega)
  obtain ⟨x1, x2, x3, x4, x5, x6, x7, x8, x9, x10, x11, x12, x13⟩ := a2
  have hX : zBX p b H S n F C R W V q (S + 1) n2 F2 C2 R W V q o (zuq o S (e, p)) w w t0 u0 t u := ⟨by omega, x2, x3, x4, x5, x6, x7, x8, ho, fun _ _ => rfl, x11, x12, x13⟩
  refine ⟨zBB_of h hX a1 (zAK_S a3 rfl h87) (by omega) (by omega) a4 a5 a6 a7 a8 a9 a10 (fun s _ hs w => hs (List.mem_cons_of_mem _ w)) (fun s _ hs w => hs (List.mem_cons_of_mem _ w)) (fun s s1 s2 => ?_), hX⟩
  have es : s = S := by omega
  subst es
  refine ⟨fun w => absurd List.mem_cons_self w, fun w => absurd List.mem_cons_self w, zHd_pa hH he ho (zuq_at _ _ _) h101 (fun r hr => x11 87 r hr) (fun _ => h107), by rw [zuq_at]; exact Nat.le_refl _⟩
/-- its content is whole -/
theorem zBB_doneY {G : zTxt} {i d p b H : Nat} {f : Nat → Nat} {N M A S n F C R W V q s : Nat} {o : Nat → Nat × Nat} {w : Nat → Nat} {Y Z : List Nat} {t u : zS} (h : zBB G i d p b H f N M A S n F C R W V q o w (s :: Y) Z t u) (hs : zStm G o w S F C R W V t u s) : zBB G i d p b H f N M A S n F C R W V q o w Y Z t u := by
  obtain ⟨a1, a2, a3, a4, a5, a6, a7, a8, a9, a10, a11, a12, a13⟩ := h
  refine ⟨a1, a2, a3, a4, a5, a6, a7, a8, a9, a10, fun k k1 k2 => ?_, a12, a13⟩
  by_cases e : k = s
  · rw [e]; exact hs
  · exact a11 k k1 (fun x => by rcases List.mem_cons.mp x with x | x; exact e x; exact k2 x)
/-- a branch more -/
theorem pl_addBranch {t : zS} {W s n : Nat} {e : Nat → Nat} {x3 lab blk : Int32} (h16 : t 52 16 = Int32.ofNat W) (hW : W < 1600) (hs : s < 1000) (hL : zLk (t 115) W n (t 105 s) e) (h3 : x3 = if n = 0 then -1 else Int32.ofNat (e (n - 1))) : ∃ t2, mX9_addBranch (Int32.ofNat s) x3 lab blk t = some (Int32.ofNat W, t2) ∧ t2 52 16 = Int32.ofNat (W + 1) ∧ (∀ j, ¬ j = 16 → t2 52 j = t 52 j) ∧ (∀ k, ¬ (k = 52 ∨ k = 105 ∨ k = 109 ∨ k = 111 ∨ k = 113 ∨ k = 115) → t2 k = t k) ∧ (∀ d, ¬ d = s → t2 105 d = t 105 d) ∧ t2 109 W = lab ∧ t2 111 W = blk ∧ (∀ k, ¬ k = W → t2 109 k = t 109 k ∧ t2 111 k = t 111 k ∧ t2 113 k = t 113 k) ∧ (∀ k, ¬ k = W → (n = 0 ∨ ¬ k = e (n - 1)) → t2 115 k = t 115 k) ∧ zLk (t2 115) (W + 1) (n + 1) (t2 105 s) (zup e n W) := by
  unfold mX9_addBranch bX9_addBranch_80
  by_cases hn : n = 0
  · subst hn
    rw [if_pos rfl] at h3
    subst h3
    refine ⟨zu (zu (zu (zu (zu (zu t 109 W lab) 111 W blk) 113 W 0) 115 W (-1)) 105 s (Int32.ofNat W)) 52 16 (Int32.ofNat (W + 1)), ?_, ?_, fun j hj => ?_, fun k hk => ?_, fun d hd => ?_, ?_, ?_, fun k hk => ⟨?_, ?_, ?_⟩, fun k hk _ => ?_, ?_, fun j hj => ?_⟩
    · simp (disch := first | omega | decide | assumption) only [zu_same, zu_ne1, zu_ne2, zu_row, pl_bd, pl_pt, pl_let, zn_set, zn_get, zn_rd, zn_wr, zn_1, zn_m, Nat.reduceAdd, h16, if_neg zn_m1]
    · simp (disch := first | omega | decide | assumption) only [zu_same, zu_ne1, zu_ne2, zu_row, pl_bd, pl_pt, pl_let, zn_set, zn_get, zn_rd, zn_wr, zn_1, zn_m, Nat.reduceAdd]
    · simp (disch := first | omega | decide | assumption) only [zu_same, zu_ne1, zu_ne2, zu_row, pl_bd, pl_pt, pl_let, zn_set, zn_get, zn_rd, zn_wr, zn_1, zn_m, Nat.reduceAdd]
    · simp (disch := first | omega | decide | assumption) only [zu_same, zu_ne1, zu_ne2, zu_row, pl_bd, pl_pt, pl_let, zn_set, zn_get, zn_rd, zn_wr, zn_1, zn_m, Nat.reduceAdd]
    · simp (disch := first | omega | decide | assumption) only [zu_same, zu_ne1, zu_ne2, zu_row, pl_bd, pl_pt, pl_let, zn_set, zn_get, zn_rd, zn_wr, zn_1, zn_m, Nat.reduceAdd]
    · simp (disch := first | omega | decide | assumption) only [zu_same, zu_ne1, zu_ne2, zu_row, pl_bd, pl_pt, pl_let, zn_set, zn_get, zn_rd, zn_wr, zn_1, zn_m, Nat.reduceAdd]
    · simp (disch := first | omega | decide | assumption) only [zu_same, zu_ne1, zu_ne2, zu_row, pl_bd, pl_pt, pl_let, zn_set, zn_get, zn_rd, zn_wr, zn_1, zn_m, Nat.reduceAdd]
    · simp (disch := first | omega | decide | assumption) only [zu_same, zu_ne1, zu_ne2, zu_row, pl_bd, pl_pt, pl_let, zn_set, zn_get, zn_rd, zn_wr, zn_1, zn_m, Nat.reduceAdd]
    · simp (disch := first | omega | decide | assumption) only [zu_same, zu_ne1, zu_ne2, zu_row, pl_bd, pl_pt, pl_let, zn_set, zn_get, zn_rd, zn_wr, zn_1, zn_m, Nat.reduceAdd]
    · simp (disch := first | omega | decide | assumption) only [zu_same, zu_ne1, zu_ne2, zu_row, pl_bd, pl_pt, pl_let, zn_set, zn_get, zn_rd, zn_wr, zn_1, zn_m, Nat.reduceAdd]
    · simp (disch := first | omega | decide | assumption) only [zu_same, zu_ne1, zu_ne2, zu_row, pl_bd, pl_pt, pl_let, zn_set, zn_get, zn_rd, zn_wr, zn_1, zn_m, Nat.reduceAdd]
    · rw [if_neg (by omega), zup_at]; simp (disch := first | omega | decide | assumption) only [zu_same, zu_ne1, zu_ne2, zu_row, pl_bd, pl_pt, pl_let, zn_set, zn_get, zn_rd, zn_wr, zn_1, zn_m, Nat.reduceAdd]
    · have e0 : j = 0 := by omega
      subst e0
      rw [zup_at, if_neg (by omega)]
      exact ⟨by omega, by simp (disch := first | omega | decide | assumption) only [zu_same, zu_ne1, zu_ne2, zu_row, pl_bd, pl_pt, pl_let, zn_set, zn_get, zn_rd, zn_wr, zn_1, zn_m, Nat.reduceAdd]⟩
  · rw [if_neg hn] at h3
    subst h3
    obtain ⟨a1, a2⟩ := hL.2 (n - 1) (by omega)
    rw [if_neg (by omega)] at a2
    refine ⟨zu (zu (zu (zu (zu (zu t 109 W lab) 111 W blk) 113 W 0) 115 W (-1)) 115 (e (n - 1)) (Int32.ofNat W)) 52 16 (Int32.ofNat (W + 1)), ?_, ?_, fun j hj => ?_, fun k hk => ?_, fun d hd => ?_, ?_, ?_, fun k hk => ⟨?_, ?_, ?_⟩, fun k hk hk2 => ?_, ?_, fun j hj => ?_⟩
    · have hp := zn_0le (k := e (n - 1)) (by omega)
      simp (disch := first | omega | decide | assumption) only [zu_same, zu_ne1, zu_ne2, zu_row, pl_bd, pl_pt, pl_let, zn_set, zn_get, zn_rd, zn_wr, zn_1, zn_m, Nat.reduceAdd, h16, if_pos hp]
    · simp (disch := first | omega | decide | assumption) only [zu_same, zu_ne1, zu_ne2, zu_row, pl_bd, pl_pt, pl_let, zn_set, zn_get, zn_rd, zn_wr, zn_1, zn_m, Nat.reduceAdd]
    · simp (disch := first | omega | decide | assumption) only [zu_same, zu_ne1, zu_ne2, zu_row, pl_bd, pl_pt, pl_let, zn_set, zn_get, zn_rd, zn_wr, zn_1, zn_m, Nat.reduceAdd]
    · simp (disch := first | omega | decide | assumption) only [zu_same, zu_ne1, zu_ne2, zu_row, pl_bd, pl_pt, pl_let, zn_set, zn_get, zn_rd, zn_wr, zn_1, zn_m, Nat.reduceAdd]
    · simp (disch := first | omega | decide | assumption) only [zu_same, zu_ne1, zu_ne2, zu_row, pl_bd, pl_pt, pl_let, zn_set, zn_get, zn_rd, zn_wr, zn_1, zn_m, Nat.reduceAdd]
    · simp (disch := first | omega | decide | assumption) only [zu_same, zu_ne1, zu_ne2, zu_row, pl_bd, pl_pt, pl_let, zn_set, zn_get, zn_rd, zn_wr, zn_1, zn_m, Nat.reduceAdd]
    · simp (disch := first | omega | decide | assumption) only [zu_same, zu_ne1, zu_ne2, zu_row, pl_bd, pl_pt, pl_let, zn_set, zn_get, zn_rd, zn_wr, zn_1, zn_m, Nat.reduceAdd]
    · simp (disch := first | omega | decide | assumption) only [zu_same, zu_ne1, zu_ne2, zu_row, pl_bd, pl_pt, pl_let, zn_set, zn_get, zn_rd, zn_wr, zn_1, zn_m, Nat.reduceAdd]
    · simp (disch := first | omega | decide | assumption) only [zu_same, zu_ne1, zu_ne2, zu_row, pl_bd, pl_pt, pl_let, zn_set, zn_get, zn_rd, zn_wr, zn_1, zn_m, Nat.reduceAdd]
    · simp (disch := first | omega | decide | assumption) only [zu_same, zu_ne1, zu_ne2, zu_row, pl_bd, pl_pt, pl_let, zn_set, zn_get, zn_rd, zn_wr, zn_1, zn_m, Nat.reduceAdd]
    · simp (disch := first | omega | decide | assumption) only [zu_same, zu_ne1, zu_ne2, zu_row, pl_bd, pl_pt, pl_let, zn_set, zn_get, zn_rd, zn_wr, zn_1, zn_m, Nat.reduceAdd]
    · rw [if_neg (by omega), zup_ne (by omega)]
      have := hL.1
      rw [if_neg hn] at this
      simp (disch := first | omega | decide | assumption) only [zu_same, zu_ne1, zu_ne2, zu_row, pl_bd, pl_pt, pl_let, zn_set, zn_get, zn_rd, zn_wr, zn_1, zn_m, Nat.reduceAdd, this]
    · by_cases q : j = n
      · subst q
        rw [zup_at, if_neg (by omega)]
        exact ⟨by omega, by simp (disch := first | omega | decide | assumption) only [zu_same, zu_ne1, zu_ne2, zu_row, pl_bd, pl_pt, pl_let, zn_set, zn_get, zn_rd, zn_wr, zn_1, zn_m, Nat.reduceAdd]⟩
      · rw [zup_ne q, if_pos (by omega)]
        by_cases q2 : j = n - 1
        · rw [q2, show n - 1 + 1 = n by omega, zup_at]
          exact ⟨by omega, by simp (disch := first | omega | decide | assumption) only [zu_same, zu_ne1, zu_ne2, zu_row, pl_bd, pl_pt, pl_let, zn_set, zn_get, zn_rd, zn_wr, zn_1, zn_m, Nat.reduceAdd]⟩
        · obtain ⟨b1, b2⟩ := hL.2 j (by omega)
          rw [if_pos (by omega)] at b2
          have ne : ¬ e j = e (n - 1) := fun w => by
            rw [w, a2] at b2
            have := (hL.2 (j + 1) (by omega)).1
            exact absurd (show (0 : Int32) ≤ -1 by rw [b2]; exact zn_0le (by omega)) zn_m1
          rw [zup_ne (by omega)]
          exact ⟨by omega, by simp (disch := first | omega | decide | assumption) only [zu_same, zu_ne1, zu_ne2, zu_row, pl_bd, pl_pt, pl_let, zn_set, zn_get, zn_rd, zn_wr, zn_1, zn_m, Nat.reduceAdd, b2]⟩
/-- a branch of statement s is added on the class's side -/
theorem zBB_branch {G : zTxt} {i d p b H : Nat} {f : Nat → Nat} {N M A S n F C R W V q s m : Nat} {e : Nat → Nat} {o : Nat → Nat × Nat} {w : Nat → Nat} {Y Z : List Nat} {t u t2 : zS} (h : zBB G i d p b H f N M A S n F C R W V q o w Y Z t u) (hsY : s ∈ Y) (hS : S ≤ 1000) (hm : m = 0 ∨ (e (m - 1) < W ∧ w (e (m - 1)) = s)) (c1 : t2 52 16 = Int32.ofNat (W + 1)) (c2 : ∀ j, ¬ j = 16 → t2 52 j = t 52 j) (c3 : ∀ k, ¬ (k = 52 ∨ k = 105 ∨ k = 109 ∨ k = 111 ∨ k = 113 ∨ k = 115) → t2 k = t k) (c4 : ∀ d, ¬ d = s → t2 105 d = t 105 d) (c5 : ∀ k, ¬ k = W → t2 109 k = t 109 k ∧ t2 111 k = t 111 k ∧ t2 113 k = t 113 k) (c6 : ∀ k, ¬ k = W → (m = 0 ∨ ¬ k = e (m - 1)) → t2 115 k = t 115 k) : zBB G i d p b H f N M A S n F C R (W + 1) V q o (zup w W s) Y Z t2 u := by
  obtain ⟨⟨b1, b2, b3, b4, b5, b6⟩, a2, a3, a4, a5, a6, a7, a8, a9, a10, a11, a12, a13⟩ := h
  refine ⟨⟨zAt_of b1 (fun j _ _ => by rw [c3 5 (by omega)]) (c3 67 (by omega)) (by rw [c3 50 (by omega)]) (fun _ _ _ => rfl) rfl rfl rfl, by rw [c3 5 (by omega)]; exact b2, b3, zSl_of b4 (Nat.le_refl _) (by rw [c3 4 (by omega)]) rfl (c3 39 (by omega)) (c3 47 (by omega)) (c3 49 (by omega)) rfl rfl, by rw [c3 51 (by omega)]; exact b5, b6⟩, zAK_fr a2 (by rw [c3 5 (by omega)]) rfl (c3 9 (by omega)) (c3 54 (by omega)) (c3 56 (by omega)) (fun s _ => by rw [c3 93 (by omega)]) (fun s _ => by rw [c3 87 (by omega)]) rfl rfl rfl rfl rfl rfl, by rw [c2 15 (by omega)]; exact a3, a4, by rw [c3 51 (by omega)]; exact a5, a6, c1, a8, a9, a10, fun k k1 k2 => ?_, fun k k1 k2 => ?_, fun k k1 => ?_⟩
  · have ne : ¬ k = s := fun x => k2 (by rw [x]; exact hsY)
    refine zStm_ext (a11 k k1 k2) k1 (Nat.le_refl _) (Nat.le_refl _) (Nat.le_refl _) (Nat.le_refl _) (by omega) (Nat.le_refl _) (fun _ _ => rfl) (fun r hr => ?_) (fun _ _ => rfl) (fun r _ => by rw [c3 101 (by omega)]) (fun r _ => ⟨by rw [c3 75 (by omega)], by rw [c3 77 (by omega)]⟩) (fun _ _ => rfl) (fun r _ => ⟨by rw [c3 79 (by omega)], by rw [c3 81 (by omega)], by rw [c3 83 (by omega)]⟩) (fun _ _ => ⟨rfl, rfl⟩) (fun r r1 r2 => ⟨by rw [zup_ne (by omega)]; exact r2, (c5 r (by omega)).1, (c5 r (by omega)).2.1, c6 r (by omega) ?_⟩) (fun _ _ => ⟨rfl, rfl⟩) (fun m hm hm2 => ⟨m, by rw [c3 39 (by omega)]; exact hm, Nat.le_refl _, hm2⟩)
    · by_cases e105 : r = 105
      · rw [e105]; exact c4 k ne
      · rw [c3 r (by omega)]
    · rcases hm with hm | hm
      · exact Or.inl hm
      · exact Or.inr (fun x => ne (by rw [← r2, x]; exact hm.2))
  · exact zLn_ext (a12 k k1 k2) (a13 k k1).1 k1 (Nat.le_refl _) hS (fun _ _ => rfl) (by rw [c3 99 (by omega)]) rfl rfl (fun r _ => by rw [c3 101 (by omega)]) (fun r _ => by rw [c3 87 (by omega)])
  · exact ⟨zPa_ext (a13 k k1).1 k1 (fun _ _ => rfl) (by rw [c3 101 (by omega)]) (fun r _ => by rw [c3 87 (by omega)]) (by rw [c3 107 (by omega)]), (a13 k k1).2⟩
theorem zBX_branch {p b H S n F C R W V q S2 n2 F2 C2 R2 W2 V2 q2 s m : Nat} {e : Nat → Nat} {o o2 : Nat → Nat × Nat} {w w2 : Nat → Nat} {t0 u0 t u t2 : zS} (h : zBX p b H S n F C R W V q S2 n2 F2 C2 R2 W2 V2 q2 o o2 w w2 t0 u0 t u) (hs : S ≤ s) (hm : m = 0 ∨ W ≤ e (m - 1)) (c3 : ∀ k, ¬ (k = 52 ∨ k = 105 ∨ k = 109 ∨ k = 111 ∨ k = 113 ∨ k = 115) → t2 k = t k) (c4 : ∀ d, ¬ d = s → t2 105 d = t 105 d) (c5 : ∀ k, ¬ k = W2 → t2 109 k = t 109 k ∧ t2 111 k = t 111 k ∧ t2 113 k = t 113 k) (c6 : ∀ k, ¬ k = W2 → (m = 0 ∨ ¬ k = e (m - 1)) → t2 115 k = t 115 k) : zBX p b H S n F C R W V q S2 n2 F2 C2 R2 (W2 + 1) V2 q2 o o2 w (zup w2 W2 s) t0 u0 t2 u := by
  obtain ⟨x1, x2, x3, x4, x5, x6, x7, x8, x9, x10, x11, x12, x13⟩ := h
  refine ⟨x1, x2, x3, x4, x5, by omega, x7, x8, x9, fun k hk => by rw [zup_ne (by omega)]; exact x10 k hk, fun k j hj => ?_, x12, x13⟩
  by_cases e52 : k = 52
  · subst e52; exact absurd hj (Nat.not_lt_zero j)
  by_cases e105 : k = 105
  · subst e105
    have hj' : j < S := hj
    rw [c4 j (by omega)]; exact x11 105 j hj
  by_cases e109 : k = 109
  · subst e109
    have hj' : j < W := hj
    rw [(c5 j (by omega)).1]; exact x11 109 j hj
  by_cases e111 : k = 111
  · subst e111
    have hj' : j < W := hj
    rw [(c5 j (by omega)).2.1]; exact x11 111 j hj
  by_cases e113 : k = 113
  · subst e113
    have hj' : j < W := hj
    rw [(c5 j (by omega)).2.2]; exact x11 113 j hj
  by_cases e115 : k = 115
  · subst e115
    have hj' : j < W := hj
    rw [c6 j (by omega) (by rcases hm with hm | hm; exact Or.inl hm; exact Or.inr (by omega))]; exact x11 115 j hj
  · rw [c3 k (by omega)]; exact x11 k j hj
