/-! tests and small steps of both readers -/
def zSf (t t2 : zS) : Prop := (∀ k, k ≠ 5 → t2 k = t k) ∧ t2 5 7 = t 5 7
def zMf (u u2 : zS) : Prop := (∀ k, k ≠ 0 → k ≠ 3 → k ≠ 4 → u2 k = u k) ∧ ∀ j, j ≤ 3 ∨ 12 ≤ j → u2 0 j = u 0 j
theorem zSf_refl (t : zS) : zSf t t := ⟨fun _ _ => rfl, rfl⟩
theorem zMf_refl (u : zS) : zMf u u := ⟨fun _ _ _ _ => rfl, fun _ _ => rfl⟩
theorem zSf_trans {a b c : zS} (h : zSf a b) (h2 : zSf b c) : zSf a c := ⟨fun k hk => (h2.1 k hk).trans (h.1 k hk), h2.2.trans h.2⟩
theorem zMf_trans {a b c : zS} (h : zMf a b) (h2 : zMf b c) : zMf a c := ⟨fun k k1 k2 k3 => (h2.1 k k1 k2 k3).trans (h.1 k k1 k2 k3), fun j hj => (h2.2 j hj).trans (h.2 j hj)⟩
theorem zSf_zu {t : zS} {j : Nat} {v : Int32} (h : j ≠ 7) : zSf t (zu t 5 j v) := ⟨fun _ hk => zu_row hk, zu_ne2 (fun e => h e.symm)⟩
theorem zMf_zu {u : zS} {j : Nat} {v : Int32} (h : 4 ≤ j ∧ j ≤ 11) : zMf u (zu u 0 j v) := ⟨fun _ k1 _ _ => zu_row k1, fun _ hj => zu_ne2 (by omega)⟩
theorem zSf_of {t t2 : zS} (h : zSfr t t2) : zSf t t2 := ⟨h.1, h.2 7 (by decide) (by decide) (by decide) (by decide)⟩
theorem zMf_of {u u2 : zS} (h : zMfr u u2) : zMf u u2 := ⟨h.1, fun j hj => h.2 j (by omega) (by omega) (by omega) (by omega) (by omega) (by omega)⟩
/-- something is wrong: on the class's side, on both -/
def zEc (t : zS) : Prop := t 5 9 = 21 ∧ 0 ≤ t 5 12
def zEr (t u : zS) : Prop := t 5 9 = 21 ∧ 0 ≤ t 5 12 ∧ u 0 9 = t 5 12
theorem zn_m1 : ¬ (0 : Int32) ≤ -1 := by decide
theorem zsg_k : ∀ k, k < 17 → ¬ Int32.ofNat k ∈ zSgs := by decide
theorem zAt_sg {G : zTxt} {i : Nat} {t u : zS} {c : Int32} (h : zAt G i t u) (hc : c ∈ zSgs) : mX12_isSign c u = some ((if t 5 9 = c then 1 else 0), u) := by
  have hw := (zAt_w h).1
  have h9 : u 0 9 = -1 := h.2.2.2.2.2.2.2.2.2.2.1
  unfold mX12_isSign
  rcases hw with ⟨k, a1, a2, a3, a4⟩ | ⟨a1, a2, a3⟩ | ⟨a1, a2, a3⟩ | ⟨a1, a2⟩ | ⟨a1, a2⟩ | ⟨a1, a2, a3⟩ | ⟨a1, a2, a3⟩
  · rw [a3, if_neg (by decide), a2, if_neg (fun e => zsg_k k a1 (by rw [e]; exact hc))]
  · rw [a2, if_neg (by decide), a1, if_neg (fun e => by rw [← e] at hc; exact absurd hc (by decide))]
  · rw [a2, if_neg (by decide), a1, if_neg (fun e => by rw [← e] at hc; exact absurd hc (by decide))]
  · rw [a2, if_neg (by decide), a1, if_neg (fun e => by rw [← e] at hc; exact absurd hc (by decide))]
  · rw [a2, if_neg (by decide), a1, if_neg (fun e => by rw [← e] at hc; exact absurd hc (by decide))]
  · rw [a2, if_pos rfl, a3, a1, if_neg (fun e => by rw [← e] at hc; exact absurd hc (by decide)), if_neg (fun e => by rw [← e] at hc; exact absurd hc (by decide))]
  · rw [a2, if_pos rfl, a3, h9]
    by_cases q : t 5 9 = c
    · rw [if_pos q, if_neg zn_m1, if_pos q]
    · rw [if_neg q, if_neg q]
theorem zAt_sgE {G : zTxt} {i : Nat} {t u : zS} (h : zAt G i t u) : mX12_isSign 69 u = some ((if t 5 9 = 256 then 1 else 0), u) := by
  have hw := (zAt_w h).1
  have h9 : u 0 9 = -1 := h.2.2.2.2.2.2.2.2.2.2.1
  unfold mX12_isSign
  rcases hw with ⟨k, a1, a2, a3, a4⟩ | ⟨a1, a2, a3⟩ | ⟨a1, a2, a3⟩ | ⟨a1, a2⟩ | ⟨a1, a2⟩ | ⟨a1, a2, a3⟩ | ⟨a1, a2, a3⟩
  · rw [a3, if_neg (by decide), a2, if_neg (show ¬ Int32.ofNat k = (256 : Int32) from fun e => by have := (zn_inj (b := 256) (by omega) (by decide)).mp e; omega)]
  · rw [a2, if_neg (by decide), a1, if_neg (by decide)]
  · rw [a2, if_neg (by decide), a1, if_neg (by decide)]
  · rw [a2, if_neg (by decide), a1, if_neg (by decide)]
  · rw [a2, if_neg (by decide), a1, if_neg (by decide)]
  · rw [a2, if_pos rfl, a3, if_pos rfl, h9, if_neg zn_m1, a1, if_pos rfl]
  · rw [a2, if_pos rfl, a3, if_neg (fun e => by rw [e] at a1; exact absurd a1 (by decide)), if_neg (fun e => by rw [e] at a1; exact absurd a1 (by decide))]
theorem zAt_ky {G : zTxt} {i k : Nat} {t u : zS} (h : zAt G i t u) (hk : k < 17) : mX12_isKey (Int32.ofNat (k + 1)) u = some ((if t 5 9 = Int32.ofNat k then 1 else 0), u) := by
  have hw := (zAt_w h).1
  have h9 : u 0 9 = -1 := h.2.2.2.2.2.2.2.2.2.2.1
  unfold mX12_isKey
  have no : ∀ (c : Nat), 17 ≤ c → c < 1000 → ¬ Int32.ofNat c = Int32.ofNat k := fun c c1 c2 e => by have := (zn_inj (by omega) (by omega)).mp e; omega
  rcases hw with ⟨j, a1, a2, a3, a4⟩ | ⟨a1, a2, a3⟩ | ⟨a1, a2, a3⟩ | ⟨a1, a2⟩ | ⟨a1, a2⟩ | ⟨a1, a2, a3⟩ | ⟨a1, a2, a3⟩
  · rw [a3, if_pos rfl, a4, a2, h9]
    by_cases q : j = k
    · subst q
      rw [if_pos rfl, if_neg zn_m1, if_pos rfl]
    · rw [if_neg (fun e => q (by have := (zn_inj (by omega) (by omega)).mp e; omega)), if_neg (fun e => q ((zn_inj (by omega) (by omega)).mp e))]
  · rw [a2, if_neg (by decide), a1, if_neg (show ¬ (17 : Int32) = Int32.ofNat k from no 17 (by decide) (by decide))]
  · rw [a2, if_neg (by decide), a1, if_neg (show ¬ (18 : Int32) = Int32.ofNat k from no 18 (by decide) (by decide))]
  · rw [a2, if_neg (by decide), a1, if_neg (show ¬ (19 : Int32) = Int32.ofNat k from no 19 (by decide) (by decide))]
  · rw [a2, if_neg (by decide), a1, if_neg (show ¬ (20 : Int32) = Int32.ofNat k from no 20 (by decide) (by decide))]
  · rw [a2, if_neg (by decide), a1, if_neg (show ¬ (256 : Int32) = Int32.ofNat k from no 256 (by decide) (by decide))]
  · rw [a2, if_neg (by decide), if_neg (fun e => zsg_k k hk (by rw [← e]; exact a1))]
/-- a NAME stands on both sides or on none -/
theorem zAt_nm {G : zTxt} {i : Nat} {t u : zS} (h : zAt G i t u) : u 0 5 = 2 ↔ t 5 9 = 17 := by
  rcases (zAt_w h).1 with ⟨k, a1, a2, a3, a4⟩ | ⟨a1, a2, a3⟩ | ⟨a1, a2, a3⟩ | ⟨a1, a2⟩ | ⟨a1, a2⟩ | ⟨a1, a2, a3⟩ | ⟨a1, a2, a3⟩
  · rw [a3, a2]; exact ⟨fun e => absurd e (by decide), fun e => by have := (zn_inj (b := 17) (by omega) (by decide)).mp e; omega⟩
  · rw [a1, a2]; exact ⟨fun _ => rfl, fun _ => rfl⟩
  · rw [a1, a2]; exact ⟨fun e => absurd e (by decide), fun e => absurd e (by decide)⟩
  · rw [a1, a2]; exact ⟨fun e => absurd e (by decide), fun e => absurd e (by decide)⟩
  · rw [a1, a2]; exact ⟨fun e => absurd e (by decide), fun e => absurd e (by decide)⟩
  · rw [a1, a2]; exact ⟨fun e => absurd e (by decide), fun e => absurd e (by decide)⟩
  · rw [a2]; exact ⟨fun e => absurd e (by decide), fun e => by rw [e] at a1; exact absurd a1 (by decide)⟩
theorem zAt_nmv {G : zTxt} {i : Nat} {t u : zS} (h : zAt G i t u) (hc : t 5 9 = 17) : ∃ v w, t 5 11 = Int32.ofNat v ∧ u 0 8 = Int32.ofNat w ∧ 17 ≤ v ∧ v < 1600 ∧ (zBk G)[w]? = some v := by
  rcases (zAt_w h).1 with ⟨k, a1, a2, a3, a4⟩ | ⟨a1, a2, a3⟩ | ⟨a1, a2, a3⟩ | ⟨a1, a2⟩ | ⟨a1, a2⟩ | ⟨a1, a2, a3⟩ | ⟨a1, a2, a3⟩
  · rw [hc] at a2; have := (zn_inj (a := 17) (by decide) (by omega)).mp a2; omega
  · exact a3
  · rw [hc] at a1; exact absurd a1 (by decide)
  · rw [hc] at a1; exact absurd a1 (by decide)
  · rw [hc] at a1; exact absurd a1 (by decide)
  · rw [hc] at a1; exact absurd a1 (by decide)
  · rw [hc] at a1; exact absurd a1 (by decide)
/-- a NUMBER -/
theorem zAt_nb {G : zTxt} {i : Nat} {t u : zS} (h : zAt G i t u) : (u 0 5 = 3 ↔ t 5 9 = 18) ∧ (t 5 9 = 18 → t 5 11 = u 0 8) := by
  rcases (zAt_w h).1 with ⟨k, a1, a2, a3, a4⟩ | ⟨a1, a2, a3⟩ | ⟨a1, a2, a3⟩ | ⟨a1, a2⟩ | ⟨a1, a2⟩ | ⟨a1, a2, a3⟩ | ⟨a1, a2, a3⟩
  · rw [a3, a2]; exact ⟨⟨fun e => absurd e (by decide), fun e => by have := (zn_inj (b := 18) (by omega) (by decide)).mp e; omega⟩, fun e => by have := (zn_inj (b := 18) (by omega) (by decide)).mp e; omega⟩
  · rw [a1, a2]; exact ⟨⟨fun e => absurd e (by decide), fun e => absurd e (by decide)⟩, fun e => absurd e (by decide)⟩
  · rw [a1, a2]; exact ⟨⟨fun _ => rfl, fun _ => rfl⟩, fun _ => a3⟩
  · rw [a1, a2]; exact ⟨⟨fun e => absurd e (by decide), fun e => absurd e (by decide)⟩, fun e => absurd e (by decide)⟩
  · rw [a1, a2]; exact ⟨⟨fun e => absurd e (by decide), fun e => absurd e (by decide)⟩, fun e => absurd e (by decide)⟩
  · rw [a1, a2]; exact ⟨⟨fun e => absurd e (by decide), fun e => absurd e (by decide)⟩, fun e => absurd e (by decide)⟩
  · rw [a2]; exact ⟨⟨fun e => absurd e (by decide), fun e => by rw [e] at a1; exact absurd a1 (by decide)⟩, fun e => by rw [e] at a1; exact absurd a1 (by decide)⟩
theorem zAt_m1 {G : zTxt} {i : Nat} {t u : zS} (h : zAt G i t u) : t 5 12 = -1 ∧ u 0 9 = -1 := ⟨h.2.2.2.2.2.2.2.2.2.1, h.2.2.2.2.2.2.2.2.2.2.1⟩
theorem zAt_lt {G : zTxt} {i : Nat} {t u : zS} (h : zAt G i t u) : i ≤ 3000 := by
  have h1 := h.1.2.1
  have h2 : G.2.1 ≤ 3000 := h.2.2.2.1
  have h3 : i ≤ G.2.2.1 := h.2.2.2.2.1
  omega
/-- zAt looks at little -/
theorem zAt_of {G : zTxt} {i : Nat} {t u t2 u2 : zS} (h : zAt G i t u) (h5 : ∀ j, 8 ≤ j → j ≤ 12 → t2 5 j = t 5 j) (h67 : t2 67 = t 67) (h50 : t2 50 4 = t 50 4) (hu : ∀ j, j ≤ 11 → j ≠ 10 → u2 0 j = u 0 j) (hu2 : u2 2 = u 2) (hu3 : u2 3 = u 3) (hu4 : u2 4 = u 4) : zAt G i t2 u2 := by
  unfold zAt at *
  unfold zWds zNM zWM at *
  rw [h5 8 (by decide) (by decide), h5 9 (by decide) (by decide), h5 10 (by decide) (by decide), h5 11 (by decide) (by decide), h5 12 (by decide) (by decide), h67, h50, hu2, hu3, hu4, hu 3 (by decide) (by decide), hu 9 (by decide) (by decide), hu 11 (by decide) (by decide), hu 4 (by decide) (by decide), hu 5 (by decide) (by decide), hu 6 (by decide) (by decide), hu 8 (by decide) (by decide)]
  exact h
/-- what is refused by both -/
theorem zAt_no {G : zTxt} {i : Nat} {t u : zS} (h : zAt G i t u) : ∃ t2 u2, mX7_refuse t = some (0, t2) ∧ mX12_fails (u 0 6) u = some (-1, u2) ∧ zEr t2 u2 ∧ zSf t t2 ∧ zMf u u2 ∧ (∀ j, j ≠ 9 → j ≠ 12 → t2 5 j = t 5 j) ∧ (∀ j, j ≠ 5 → j ≠ 9 → u2 0 j = u 0 j) ∧ (∀ k, k ≠ 0 → u2 k = u k) := by
  obtain ⟨a1, a2, a3, a4⟩ := zAt_w h
  obtain ⟨b1, b2⟩ := zAt_m1 h
  have hl := zAt_lt h
  have hp : zpos G.1 G.2.1 i ≤ 3000 := by
    have h2 : G.2.1 ≤ 3000 := h.2.2.2.1
    rcases Nat.lt_or_ge i G.2.2.1 with q | q
    · have := (h.1.2.2.1 i q).1; omega
    · have h3 : i ≤ G.2.2.1 := h.2.2.2.2.1
      have e : i = G.2.2.1 := by omega
      rw [e, h.1.1]; exact h2
  refine ⟨zu (zu t 5 12 (t 5 10)) 5 9 21, zu (zu u 0 9 (u 0 6)) 0 5 0, ?_, ?_, ⟨zu_same _ _ _ _, ?_, ?_⟩, zSf_trans (zSf_zu (by decide)) (zSf_zu (by decide)), zMf_trans (zMf_zu (by decide)) (zMf_zu (by decide)), fun j j1 j2 => ?_, fun j j1 j2 => ?_, fun k hk => ?_⟩
  · unfold mX7_refuse
    rw [if_neg (by rw [b1]; decide), pl_pt, pl_pt]
  · unfold mX12_fails bX12_fails_12
    rw [if_neg (by rw [b2]; decide), pl_pt, pl_pt]
  · rw [zu_ne2 (by decide), zu_same, a3]; exact zn_0le (by omega)
  · rw [zu_ne2 (by decide), zu_same, zu_ne2 (by decide), zu_same, a2]
  · rw [zu_ne2 j1, zu_ne2 j2]
  · rw [zu_ne2 j1, zu_ne2 j2]
  · rw [zu_row hk, zu_row hk]
/-! behind a fault -/
theorem zEc_refuse {t : zS} (h : zEc t) : mX7_refuse t = some (0, t) := by unfold mX7_refuse; rw [if_pos h.2]
theorem zEc_step {t : zS} (h : zEc t) : ∃ t2, mX7_step t = some (0, t2) ∧ zEc t2 ∧ zSf t t2 ∧ t2 5 12 = t 5 12 := by
  refine ⟨zu t 5 8 (t 5 8 + 1), ?_, ⟨by rw [zu_ne2 (by decide)]; exact h.1, by rw [zu_ne2 (by decide)]; exact h.2⟩, zSf_zu (by decide), zu_ne2 (by decide)⟩
  unfold mX7_step
  rw [pl_pt, pl_let, if_pos (by rw [zu_ne2 (by decide)]; exact h.2)]
theorem zEc_expect {t : zS} {c : Int32} (h : zEc t) (hc : ¬ (21 : Int32) = c) : mX7_expect c t = some (0, t) := by
  unfold mX7_expect
  rw [if_neg (by rw [h.1]; exact hc), zEc_refuse h, pl_bd]
theorem zEc_enter {t : zS} {c : Int32} (h : zEc t) (hc : ¬ (21 : Int32) = c) : mX7_enter c t = some (0, t) := by
  unfold mX7_enter bX7_enter_17
  rw [if_neg (by rw [h.1]; exact hc), zEc_refuse h, pl_bd]
theorem zEc_leave {t : zS} {c : Int32} (h : zEc t) (hc : ¬ (21 : Int32) = c) : ∃ t2, mX7_leave c t = some (0, t2) ∧ zEc t2 ∧ zSf t t2 ∧ t2 5 12 = t 5 12 := by
  have e9 : ∀ x y, zu (zu t 5 14 x) 5 13 y 5 9 = 21 := fun x y => by rw [zu_ne2 (by decide), zu_ne2 (by decide)]; exact h.1
  have e12 : ∀ x y, zu (zu t 5 14 x) 5 13 y 5 12 = t 5 12 := fun x y => by rw [zu_ne2 (by decide), zu_ne2 (by decide)]
  refine ⟨zu (zu t 5 14 (t 5 10)) 5 13 (zu t 5 14 (t 5 10) 5 13 - 1), ?_, ⟨e9 _ _, by rw [e12]; exact h.2⟩, zSf_trans (zSf_zu (by decide)) (zSf_zu (by decide)), e12 _ _⟩
  unfold mX7_leave
  rw [pl_pt, pl_pt, if_neg (by rw [e9]; exact hc), zEc_refuse ⟨e9 _ _, by rw [e12]; exact h.2⟩, pl_bd]
theorem zEm_sg {u : zS} {c : Int32} (h : 0 ≤ u 0 9) : mX12_isSign c u = some (0, u) := by
  unfold mX12_isSign
  rw [if_pos h]
  by_cases q : u 0 5 = 4
  · rw [if_pos q]
    by_cases q2 : u 0 8 = c
    · rw [if_pos q2]
    · rw [if_neg q2]
  · rw [if_neg q]
theorem zEm_ky {u : zS} {c : Int32} (h : 0 ≤ u 0 9) : mX12_isKey c u = some (0, u) := by
  unfold mX12_isKey
  rw [if_pos h]
  by_cases q : u 0 5 = 5
  · rw [if_pos q]
    by_cases q2 : u 0 8 = c
    · rw [if_pos q2]
    · rw [if_neg q2]
  · rw [if_neg q]
theorem zEm_fails {u : zS} {x : Int32} (h : 0 ≤ u 0 9) : mX12_fails x u = some (-1, zu u 0 5 0) := by
  unfold mX12_fails bX12_fails_12
  rw [if_pos h, pl_pt]
theorem zEm_passes {u : zS} {x : Int32} (h : 0 ≤ u 0 9) : mX12_passes x u = some (0, zu u 0 5 0) := by
  unfold mX12_passes bX12_passes_11
  rw [if_pos h, zEm_fails h, pl_bd]
theorem zEm_opens {u : zS} {x : Int32} (h : 0 ≤ u 0 9) : mX12_opens x u = some (0, zu u 0 5 0) := by
  unfold mX12_opens bX12_opens_20
  rw [if_pos h, zEm_fails h, pl_bd]
theorem zEm_closes {u : zS} {x : Int32} (h : 0 ≤ u 0 9) : mX12_closes x u = some (0, zu u 0 5 0) := by
  unfold mX12_closes
  rw [zEm_sg h, pl_bd, zEm_passes h, pl_bd, if_pos rfl]
/-! expect, enter, leave -/
theorem zsg_19 {c : Int32} (h : c ∈ zSgs) : ¬ c = 19 ∧ ¬ (21 : Int32) = c := by
  constructor
  · intro e; rw [e] at h; exact absurd h (by decide)
  · intro e; rw [← e] at h; exact absurd h (by decide)
theorem zAt_expect {G : zTxt} {i : Nat} {t u : zS} {c : Int32} (h : zAt G i t u) (hc : c ∈ zSgs) : ∃ t2 r u2, mX7_expect c t = some (0, t2) ∧ mX12_passes (if t 5 9 = c then 1 else 0) u = some (r, u2) ∧ zSf t t2 ∧ zMf u u2 ∧ ((t 5 9 = c ∧ r = 1 ∧ zAt G (i + 1) t2 u2 ∧ t2 5 13 = t 5 13 ∧ u2 0 10 = u 0 10) ∨ (¬ t 5 9 = c ∧ r = 0 ∧ zEr t2 u2)) := by
  obtain ⟨b1, b2⟩ := zAt_m1 h
  unfold mX7_expect mX12_passes bX12_passes_11
  rw [if_neg (show ¬ (0 : Int32) ≤ u 0 9 by rw [b2]; decide)]
  by_cases q : t 5 9 = c
  · obtain ⟨t2, u2, r1, r2, r3, r4, r5⟩ := zAt_step h (by rw [q]; exact (zsg_19 hc).1)
    rw [if_pos q, if_pos q, if_neg pl_10, r1, r2, pl_bd, pl_bd]
    exact ⟨t2, 1, u2, rfl, rfl, zSf_of r4, zMf_of r5, Or.inl ⟨q, rfl, r3, r4.2 13 (by decide) (by decide) (by decide) (by decide), r5.2 10 (by decide) (by decide) (by decide) (by decide) (by decide) (by decide)⟩⟩
  · obtain ⟨t2, u2, r1, r2, r3, r4, r5, _⟩ := zAt_no h
    rw [if_neg q, if_neg q, if_pos rfl, r1, r2, pl_bd, pl_bd]
    exact ⟨t2, 0, u2, rfl, rfl, r4, r5, Or.inr ⟨q, rfl, r3⟩⟩
theorem zAt_enter {G : zTxt} {i d : Nat} {t u : zS} {c : Int32} (h : zAt G i t u) (hc : c ∈ zSgs) (hd : d ≤ 40) (h13 : t 5 13 = Int32.ofNat d) (h10 : u 0 10 = Int32.ofNat d) : ∃ t2 r u2, mX7_enter c t = some (r, t2) ∧ mX12_opens (if t 5 9 = c then 1 else 0) u = some (r, u2) ∧ zSf t t2 ∧ zMf u u2 ∧ ((t 5 9 = c ∧ r = 1 ∧ d < 40 ∧ zAt G (i + 1) t2 u2 ∧ t2 5 13 = Int32.ofNat (d + 1) ∧ u2 0 10 = Int32.ofNat (d + 1)) ∨ (r = 0 ∧ zEr t2 u2)) := by
  obtain ⟨b1, b2⟩ := zAt_m1 h
  have bad : ∃ t2 u2, bX7_enter_17 t = some (0, t2) ∧ bX12_opens_20 u = some (0, u2) ∧ zSf t t2 ∧ zMf u u2 ∧ zEr t2 u2 := by
    obtain ⟨t2, u2, r1, r2, r3, r4, r5, _⟩ := zAt_no h
    unfold bX7_enter_17 bX12_opens_20
    rw [r1, r2, pl_bd, pl_bd]
    exact ⟨t2, u2, rfl, rfl, r4, r5, r3⟩
  unfold mX7_enter mX12_opens
  rw [if_neg (show ¬ (0 : Int32) ≤ u 0 9 by rw [b2]; decide)]
  by_cases q : t 5 9 = c
  · rw [if_pos q, if_pos q, if_neg pl_10]
    by_cases qd : d < 40
    · rw [if_pos (by rw [h13]; exact (zn_lt (b := 40) (by omega) (by decide)).mpr qd), if_neg (by rw [h10]; exact fun e => by have := (zn_inj (b := 40) (by omega) (by decide)).mp e; omega), pl_pt, pl_pt, h13, h10, zn_1]
      have h' : zAt G i (zu t 5 13 (Int32.ofNat (d + 1))) (zu u 0 10 (Int32.ofNat (d + 1))) := zAt_of h (fun j j1 j2 => zu_ne2 (by omega)) (zu_row (by decide)) (zu_ne1 (by decide)) (fun j j1 j2 => zu_ne2 j2) (zu_row (by decide)) (zu_row (by decide)) (zu_row (by decide))
      obtain ⟨t2, u2, r1, r2, r3, r4, r5⟩ := zAt_step h' (by rw [zu_ne2 (by decide), q]; exact (zsg_19 hc).1)
      rw [r1, r2, pl_bd, pl_bd]
      refine ⟨t2, 1, u2, rfl, rfl, zSf_trans (zSf_zu (by decide)) (zSf_of r4), zMf_trans (zMf_zu (by decide)) (zMf_of r5), Or.inl ⟨q, rfl, qd, r3, ?_, ?_⟩⟩
      · rw [r4.2 13 (by decide) (by decide) (by decide) (by decide), zu_same]
      · rw [r5.2 10 (by decide) (by decide) (by decide) (by decide) (by decide) (by decide), zu_same]
    · obtain ⟨t2, u2, r1, r2, r3, r4, r5⟩ := bad
      rw [if_neg (by rw [h13]; exact fun w => qd ((zn_lt (b := 40) (by omega) (by decide)).mp w)), if_pos (by rw [h10, show d = 40 by omega]; rfl), r1, r2]
      exact ⟨t2, 0, u2, rfl, rfl, r3, r4, Or.inr ⟨rfl, r5⟩⟩
  · obtain ⟨t2, u2, r1, r2, r3, r4, r5⟩ := bad
    rw [if_neg q, if_neg q, if_pos rfl, r1, r2]
    exact ⟨t2, 0, u2, rfl, rfl, r3, r4, Or.inr ⟨rfl, r5⟩⟩
theorem zAt_leave {G : zTxt} {i d : Nat} {t u : zS} {c : Int32} (h : zAt G i t u) (hc : c ∈ zSgs) (hd : d ≤ 40) (h13 : t 5 13 = Int32.ofNat (d + 1)) (h10 : u 0 10 = Int32.ofNat (d + 1)) : ∃ t2 u2, mX7_leave c t = some (0, t2) ∧ mX12_closes c u = some (0, u2) ∧ zSf t t2 ∧ zMf u u2 ∧ ((t 5 9 = c ∧ zAt G (i + 1) t2 u2 ∧ t2 5 13 = Int32.ofNat d ∧ u2 0 10 = Int32.ofNat d ∧ t2 5 14 = t 5 10) ∨ (¬ t 5 9 = c ∧ zEr t2 u2)) := by
  have e1 : Int32.ofNat (d + 1) - 1 = Int32.ofNat d := zn_sub (a := d + 1) (b := 1) (by omega) (by omega)
  have h' : zAt G i (zu (zu t 5 14 (t 5 10)) 5 13 (Int32.ofNat d)) u := zAt_of h (fun j j1 j2 => by rw [zu_ne2 (by omega), zu_ne2 (by omega)]) (by rw [zu_row (by decide), zu_row (by decide)]) (by rw [zu_ne1 (by decide), zu_ne1 (by decide)]) (fun j j1 j2 => rfl) rfl rfl rfl
  have e9 : zu (zu t 5 14 (t 5 10)) 5 13 (Int32.ofNat d) 5 9 = t 5 9 := by rw [zu_ne2 (by decide), zu_ne2 (by decide)]
  have fr : zSf t (zu (zu t 5 14 (t 5 10)) 5 13 (Int32.ofNat d)) := zSf_trans (zSf_zu (by decide)) (zSf_zu (by decide))
  obtain ⟨b1, b2⟩ := zAt_m1 h
  unfold mX7_leave mX12_closes
  rw [pl_pt, pl_pt, show zu t 5 14 (t 5 10) 5 13 = Int32.ofNat (d + 1) from by rw [zu_ne2 (by decide)]; exact h13, e1, e9, zAt_sg h hc, pl_bd]
  unfold mX12_passes bX12_passes_11
  rw [if_neg (show ¬ (0 : Int32) ≤ u 0 9 by rw [b2]; decide)]
  by_cases q : t 5 9 = c
  · obtain ⟨t2, u2, r1, r2, r3, r4, r5⟩ := zAt_step h' (by rw [e9, q]; exact (zsg_19 hc).1)
    have e10 : u2 0 10 = Int32.ofNat (d + 1) := by rw [r5.2 10 (by decide) (by decide) (by decide) (by decide) (by decide) (by decide)]; exact h10
    rw [if_pos q, if_pos q, if_neg pl_10, r1, r2, pl_bd, pl_bd, pl_bd, if_neg pl_10, pl_pt, e10, e1]
    refine ⟨t2, _, rfl, rfl, zSf_trans fr (zSf_of r4), zMf_trans (zMf_of r5) (zMf_zu (by decide)), Or.inl ⟨q, zAt_of r3 (fun j _ _ => rfl) rfl rfl (fun j j1 j2 => zu_ne2 j2) (zu_row (by decide)) (zu_row (by decide)) (zu_row (by decide)), ?_, zu_same _ _ _ _, ?_⟩⟩
    · rw [r4.2 13 (by decide) (by decide) (by decide) (by decide), zu_same]
    · rw [r4.2 14 (by decide) (by decide) (by decide) (by decide), zu_ne2 (by decide), zu_same]
  · obtain ⟨t2, u2, r1, r2, r3, r4, r5, _⟩ := zAt_no h'
    rw [if_neg q, if_neg q, if_pos rfl, r1, r2, pl_bd, pl_bd, pl_bd, if_pos rfl]
    exact ⟨t2, u2, rfl, rfl, zSf_trans fr r4, r5, Or.inr ⟨q, r3⟩⟩
