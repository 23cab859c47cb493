/-! NAMES replaced on both sides -/
theorem zb_b : ∀ b, b < 2 → (Int32.ofNat b ^^^ (2 &&& 1) = Int32.ofNat b ∧ Int32.ofNat b ^^^ (3 &&& 1) = Int32.ofNat (1 - b) ∧ 1 - Int32.ofNat b = Int32.ofNat (1 - b)) := by decide
theorem zn_dbl (c b : Nat) : 2 * Int32.ofNat c + Int32.ofNat b = Int32.ofNat (2 * c + b) := by
  show Int32.ofNat 2 * Int32.ofNat c + Int32.ofNat b = _
  rw [zn_mul, zn_add]
theorem zn_dbl0 (c : Nat) : 2 * Int32.ofNat c = Int32.ofNat (2 * c) := zn_mul 2 c
theorem zn_hlf {k : Nat} (h : k < 1000000) : Int32.ofNat k / 2 = Int32.ofNat (k / 2) ∧ Int32.ofNat k - Int32.ofNat k / 2 * 2 = Int32.ofNat (k % 2) := by
  have e : Int32.ofNat k / 2 = Int32.ofNat (k / 2) := by
    apply pl_ext
    rw [Int32.toInt_div, pl_ofn (by omega), pl_ofn (by omega)]
    have e : (2 : Int32).toInt = 2 := by decide
    rw [e, Int.tdiv_eq_ediv_of_nonneg (by omega), Int.bmod_eq_of_le (by omega) (by omega)]
    omega
  refine ⟨e, ?_⟩
  rw [e, show Int32.ofNat (k / 2) * 2 = Int32.ofNat (k / 2 * 2) from zn_mul (k / 2) 2, zn_sub (by omega) (by omega)]
  congr 1
  omega
def zBg (n : Nat) (t : zS) : Prop := ∀ k, k < n → t 27 k = Int32.ofNat (zSg2 t (2 * (t 21 k).toNatClampNeg))
theorem pl_set24 {G : zTxt} {f : Nat → Nat} {N M P A T : Nat} {t u : zS} {k2 : Int32 → zS → zR} {x1 : Int32} (h : zTG G f N M P A T t u) : ∀ (d i c b fu : Nat), d + i = T → c < N → b < 2 → zEn t d c → lX2_settle_24 k2 (fu + d + 1) x1 (Int32.ofNat c) (Int32.ofNat b) (Int32.ofNat i) t = bX2_settle_83 k2 x1 (Int32.ofNat (zFz t d (2 * c + b) / 2)) (Int32.ofNat (zFz t d (2 * c + b) % 2)) t := by
  have h15 : t 3 15 = Int32.ofNat T := h.2.1.1
  have hT := h.2.2.2.2.2.1
  have hN := h.2.2.2.1
  intro d
  induction d with
  | zero =>
    intro i c b fu hd hc hb ho
    show bX2_settle_24 k2 _ _ _ _ _ t = _
    unfold bX2_settle_24
    rw [h15, if_pos ((zn_le (by omega) (by omega)).mpr (by omega)), zFz_stop (by rw [show (2 * c + b) / 2 = c by omega]; exact ho), show (2 * c + b) / 2 = c by omega, show (2 * c + b) % 2 = b by omega]
  | succ d ih =>
    intro i c b fu hd hc hb ho
    have e2 : (2 * c + b) / 2 = c := by omega
    have e3 : (2 * c + b) % 2 = b := by omega
    show bX2_settle_24 k2 (lX2_settle_24 k2 (fu + d + 1)) _ _ _ _ t = _
    unfold bX2_settle_24
    rw [h15, if_neg (show ¬ Int32.ofNat T ≤ Int32.ofNat i by rw [zn_le (by omega) (by omega)]; omega), pl_isName (by omega), pl_bd]
    rcases zNd_at h hc with ⟨q, _⟩ | ⟨q, v, k, b1, b2, b3, b4, b5, b6, b7, b8⟩
    · rw [if_neg q, if_pos rfl, zFz_stop (by rw [e2]; exact q), e2, e3]
    · have q' : t 9 c = 2 ∨ t 9 c = 3 := by rcases q with e | e; exact Or.inl e.1; exact Or.inr e.1
      have g8 : mX5_get 8 3000 (Int32.ofNat c) t = some (t 9 c, t) := zn_get (by omega) (by decide)
      have g10 : mX5_get 10 3000 (Int32.ofNat c) t = some (Int32.ofNat v, t) := by rw [← b2]; exact zn_get (by omega) (by decide)
      have g24 : mX5_get 24 1600 (Int32.ofNat v) t = some (Int32.ofNat k, t) := by rw [← b3]; exact zn_get b1 (by decide)
      have g20 : mX5_get 20 400 (Int32.ofNat k) t = some (Int32.ofNat (zNd t c), t) := by rw [← b6]; exact zn_get (by omega) (by decide)
      have eb : Int32.ofNat b ^^^ (t 9 c &&& 1) = Int32.ofNat (if t 9 c = 3 then 1 - b else b) := by
        rcases q' with e | e
        · rw [e, if_neg (by decide)]; exact (zb_b b hb).1
        · rw [e, if_pos rfl]; exact (zb_b b hb).2.1
      rw [if_pos q', if_neg pl_10, g8, pl_bd, pl_let, g10, pl_bd, g24, pl_bd, g20, pl_bd, pl_let, zn_1, eb, zFz_name (by rw [e2]; exact q'), e2, e3]
      exact ih (i + 1) (zNd t c) _ fu (by omega) b8 (by split <;> omega) (ho q')
theorem pl_settle {G : zTxt} {f : Nat → Nat} {N M P A T : Nat} {t u : zS} (h : zTG G f N M P A T t u) : ∃ t2, mX2_settle t = some (0, t2) ∧ (∀ k, ¬ k = 27 → t2 k = t k) ∧ zBg T t2 := by
  have loop : ∀ (d x fu : Nat) (t : zS), d + x = T → zTG G f N M P A T t u → zBg x t → ∃ t2, lX2_settle_2 (fu + d + 1) (Int32.ofNat x) t = some (0, t2) ∧ (∀ k, ¬ k = 27 → t2 k = t k) ∧ zBg T t2 := by
    intro d
    induction d with
    | zero =>
      intro x fu t hd h hb
      have h15 : t 3 15 = Int32.ofNat T := h.2.1.1
      have hT := h.2.2.2.2.2.1
      refine ⟨t, ?_, fun _ _ => rfl, by rw [show T = x by omega]; exact hb⟩
      show bX2_settle_2 _ _ t = _
      unfold bX2_settle_2
      rw [h15, if_pos ((zn_le (by omega) (by omega)).mpr (by omega))]
    | succ d ih =>
      intro x fu t hd h hb
      have h15 : t 3 15 = Int32.ofNat T := h.2.1.1
      have hT := h.2.2.2.2.2.1
      have hN := h.2.2.2.1
      obtain ⟨_, c, c1, c2, c3⟩ := h.2.1.2.2.2 x (by omega)
      have ec : (t 21 x).toNatClampNeg = c := by rw [c2]; exact pl_clamp (pl_ofn (by omega))
      have ho : zEn t T c := by have := zEn_root h (show x < T by omega); rw [ec] at this; exact this
      have hs : zFz t T (2 * c + 0) = zSg2 t (2 * c) := by
        have := zFz_le T (2 * c) (by rw [show 2 * c / 2 = c by omega]; exact ho) (400 - T)
        rw [show T + (400 - T) = 400 by omega] at this
        exact this.symm
      have g20 : mX5_get 20 400 (Int32.ofNat x) t = some (Int32.ofNat c, t) := by rw [← c2]; exact zn_get (by omega) (by decide)
      have l24 := pl_set24 (k2 := lX2_settle_2 (fu + d + 1)) (x1 := Int32.ofNat x) h T 0 c 0 (zFU - T - 1) (by omega) c1 (by decide) ho
      rw [show zFU - T - 1 + T + 1 = zFU by unfold zFU; omega, hs] at l24
      have e0 : lX2_settle_2 (fu + (d + 1) + 1) (Int32.ofNat x) t = lX2_settle_2 (fu + d + 1) (Int32.ofNat (x + 1)) (zu t 27 x (Int32.ofNat (zSg2 t (2 * c)))) := by
        show bX2_settle_2 (lX2_settle_2 (fu + d + 1)) _ t = _
        unfold bX2_settle_2
        rw [h15, if_neg (show ¬ Int32.ofNat T ≤ Int32.ofNat x by rw [zn_le (by omega) (by omega)]; omega), g20, pl_bd]
        refine Eq.trans l24 ?_
        unfold bX2_settle_83
        rw [zn_dbl, zn_set (by omega) (by decide), pl_bd, pl_let, zn_1, show 2 * (zSg2 t (2 * c) / 2) + zSg2 t (2 * c) % 2 = zSg2 t (2 * c) by omega]
      have fr : ∀ k, ¬ k = 27 → zu t 27 x (Int32.ofNat (zSg2 t (2 * c))) k = t k := fun k hk => zu_row hk
      have tr : zTr t (zu t 27 x (Int32.ofNat (zSg2 t (2 * c)))) := ⟨fr 9 (by decide), fr 11 (by decide), fr 13 (by decide), fr 15 (by decide), fr 17 (by decide), fr 19 (by decide), fr 21 (by decide), fr 23 (by decide), fr 25 (by decide), by rw [fr 3 (by decide)], by rw [fr 3 (by decide)], by rw [fr 3 (by decide)]⟩
      obtain ⟨t2, z1, z2, z3⟩ := ih (x + 1) fu _ (by omega) (zTG_of h tr (zTrM_refl _)) (fun k hk => by
        rw [fr 21 (by decide)]
        rw [zSg2_of tr]
        by_cases e : k = x
        · subst e
          rw [zu_same, ec]
        · rw [zu_ne2 e]; exact hb k (by omega))
      exact ⟨t2, e0.trans z1, fun k hk => (z2 k hk).trans (fr k hk), z3⟩
  have hT := h.2.2.2.2.2.1
  obtain ⟨t2, z⟩ := loop T 0 (zFU - T - 1) t (by omega) h (fun k hk => absurd hk (Nat.not_lt_zero k))
  rw [show zFU - T - 1 + T + 1 = zFU by unfold zFU; omega] at z
  exact ⟨t2, z⟩
theorem pl_settled {G : zTxt} {f : Nat → Nat} {N M P A T s : Nat} {t u : zS} (h : zTG G f N M P A T t u) (hb : zBg T t) (hs : s / 2 < N) : mX2_settled (Int32.ofNat s) t = some (Int32.ofNat (zSg2 t s), t) := by
  have hT := h.2.2.2.2.2.1
  have hN := h.2.2.2.1
  obtain ⟨s1, s2⟩ := zb_s s (by omega)
  have g8 : mX5_get 8 3000 (Int32.ofNat (s / 2)) t = some (t 9 (s / 2), t) := zn_get (by omega) (by decide)
  unfold mX2_settled
  rw [s1, pl_let, g8, pl_bd]
  rcases zNd_at h hs with ⟨q, _⟩ | ⟨q, v, k, b1, b2, b3, b4, b5, b6, b7, b8⟩
  · rw [if_neg (fun w => q (Or.inl w)), if_neg (fun w => q (Or.inr w)), zSg2_stop q]
  · have q' : t 9 (s / 2) = 2 ∨ t 9 (s / 2) = 3 := by rcases q with e | e; exact Or.inl e.1; exact Or.inr e.1
    have g10 : mX5_get 10 3000 (Int32.ofNat (s / 2)) t = some (Int32.ofNat v, t) := by rw [← b2]; exact zn_get (by omega) (by decide)
    have g24 : mX5_get 24 1600 (Int32.ofNat v) t = some (Int32.ofNat k, t) := by rw [← b3]; exact zn_get b1 (by decide)
    have e27 : t 27 k = Int32.ofNat (zSg2 t (2 * zNd t (s / 2))) := by
      rw [hb k b5, b6, show (Int32.ofNat (zNd t (s / 2))).toNatClampNeg = zNd t (s / 2) from pl_clamp (pl_ofn (by omega))]
    have g26 : mX5_get 26 400 (Int32.ofNat k) t = some (Int32.ofNat (zSg2 t (2 * zNd t (s / 2))), t) := by rw [← e27]; exact zn_get (by omega) (by decide)
    have hl : zSg2 t (2 * zNd t (s / 2)) < 6000 := by
      have := zFz_lt h 400 (2 * zNd t (s / 2)) (by omega)
      unfold zSg2
      omega
    have hl2 : zflp (zSg2 t (2 * zNd t (s / 2))) < 6000 := by unfold zflp; omega
    obtain ⟨x1, x2⟩ := zb_x _ hl
    obtain ⟨x3, x4⟩ := zb_x _ hl2
    have eS : zSg2 t s = zSg2 t (2 * zNd t (s / 2) + (if t 9 (s / 2) = 3 then 1 - s % 2 else s % 2)) := by
      have e := zFz_name (n := 399) q'
      have e2 := zSg2_eq (s := 2 * zNd t (s / 2) + (if t 9 (s / 2) = 3 then 1 - s % 2 else s % 2)) h (by split <;> omega) (show T + 1 ≤ 399 + 0 by omega)
      exact e.trans e2
    have ef : zSg2 t (2 * zNd t (s / 2) + 1) = zflp (zSg2 t (2 * zNd t (s / 2))) := by
      rw [← zSg2_fl]
      congr 1
      unfold zflp
      omega
    have key : (Int32.ofNat (zSg2 t (2 * zNd t (s / 2))) ^^^ (t 9 (s / 2) &&& 1)) ^^^ Int32.ofNat (s % 2) = Int32.ofNat (zSg2 t s) := by
      rw [eS]
      have m : s % 2 = 0 ∨ s % 2 = 1 := by omega
      rcases q' with e | e
      · rw [e, if_neg (by decide), show (2 &&& 1 : Int32) = 0 by decide, x2]
        rcases m with m | m
        · rw [m]; exact x2
        · rw [m, ef]; exact x1
      · rw [e, if_pos rfl, show (3 &&& 1 : Int32) = 1 by decide, x1]
        rcases m with m | m
        · rw [m, show 1 - 0 = 1 by omega, ef]; exact x4
        · rw [m, show 1 - 1 = 0 by omega]
          refine x3.trans ?_
          rw [(zflp_2 _).2.2]
          rfl
    unfold bX2_settled_25
    rcases q' with e | e
    · rw [if_pos e, g10, pl_bd, g24, pl_bd, g26, pl_bd, s2, key]
    · rw [if_neg (by rw [e]; decide), if_pos e, g10, pl_bd, g24, pl_bd, g26, pl_bd, s2, key]
/-- a state on the reference's side -/
def zF (f : Nat → Nat) (s : Nat) : Nat := 2 * f (s / 2) + s % 2
theorem zF_2 (f : Nat → Nat) (s : Nat) : zF f s / 2 = f (s / 2) ∧ zF f s % 2 = s % 2 := by
  unfold zF
  constructor <;> omega
theorem pl_plain {G : zTxt} {f : Nat → Nat} {N M P A T s : Nat} {t u : zS} (h : zTG G f N M P A T t u) (hs : s / 2 < N) : mX12_plain (Int32.ofNat (zF f s)) u = some (Int32.ofNat (zF f (zSg2 t s)), u) := by
  have hT := h.2.2.2.2.2.1
  have hM := h.2.2.2.2.1
  have loop : ∀ (d c b fu : Nat), c < N → b < 2 → zEn t d c → lX12_plain_8 (fu + d + 1) (Int32.ofNat (f c)) (Int32.ofNat b) u = some (Int32.ofNat (zF f (zFz t d (2 * c + b))), u) := by
    intro d
    induction d with
    | zero =>
      intro c b fu hc hb ho
      have hfc := h.1.2.2.2.2.1 c hc
      have hn : ¬ (u 5 (f c) = 1 ∨ u 5 (f c) = 2) := by
        rcases zNd_at h hc with ⟨_, q⟩ | ⟨q, _⟩
        · exact q
        · exact absurd (by rcases q with e | e; exact Or.inl e.1; exact Or.inr e.1) ho
      show bX12_plain_8 _ _ _ u = _
      unfold bX12_plain_8
      rw [zn_rd (by omega) (by decide), if_neg (fun w => hn (Or.inl w)), zn_rd (by omega) (by decide), if_neg (fun w => hn (Or.inr w)), zn_dbl]
      unfold zFz zF
      rw [show (2 * c + b) / 2 = c by omega, show (2 * c + b) % 2 = b by omega]
    | succ d ih =>
      intro c b fu hc hb ho
      have hfc := h.1.2.2.2.2.1 c hc
      have e2 : (2 * c + b) / 2 = c := by omega
      have e3 : (2 * c + b) % 2 = b := by omega
      show bX12_plain_8 (lX12_plain_8 (fu + d + 1)) _ _ u = _
      unfold bX12_plain_8 bX12_plain_28 bX12_plain_45
      rcases zNd_at h hc with ⟨q, q2⟩ | ⟨q, v, k, b1, b2, b3, b4, b5, b6, b7, b8⟩
      · rw [zn_rd (by omega) (by decide), if_neg (fun w => q2 (Or.inl w)), zn_rd (by omega) (by decide), if_neg (fun w => q2 (Or.inr w)), zn_dbl, zFz_stop (by rw [e2]; exact q)]
        unfold zF
        rw [e2, e3]
      · have q' : t 9 c = 2 ∨ t 9 c = 3 := by rcases q with e | e; exact Or.inl e.1; exact Or.inr e.1
        have hk : k < 400 := by omega
        simp only [zn_rd (show f c < 3100 by omega) (show 3100 < 2147483648 by decide), b4, zn_rd hk (show 400 < 2147483648 by decide), b7, (zb_b b hb).2.2]
        rw [zFz_name (by rw [e2]; exact q'), e2, e3]
        rcases q with ⟨e, e'⟩ | ⟨e, e'⟩
        · rw [if_pos e', if_neg (by rw [e']; decide), if_neg (by rw [e]; decide)]
          exact ih _ b fu b8 hb (ho q')
        · rw [if_neg (by rw [e']; decide), if_pos e', if_pos e', if_pos e]
          exact ih _ (1 - b) fu b8 (by omega) (ho q')
  obtain ⟨a1, a2⟩ := zF_2 f s
  have hfs := h.1.2.2.2.2.1 (s / 2) hs
  have hlt : zF f s < 1000000 := by unfold zF; omega
  unfold mX12_plain
  rw [(zn_hlf hlt).2, (zn_hlf hlt).1, pl_let, pl_let, a1, a2]
  have := loop (T + 1) (s / 2) (s % 2) (zFU - (T + 1) - 1) hs (by omega) (zEn_all h hs)
  rw [show zFU - (T + 1) - 1 + (T + 1) + 1 = zFU by unfold zFU; omega, show 2 * (s / 2) + s % 2 = s by omega, zSg2_eq h hs (Nat.le_refl _)] at this
  exact this
