/-! a STATEMENT begins and ends -/
def zuq (o : Nat → Nat × Nat) (a : Nat) (b : Nat × Nat) : Nat → Nat × Nat := fun x => if x = a then b else o x
theorem zuq_at (o : Nat → Nat × Nat) (a : Nat) (b : Nat × Nat) : zuq o a b a = b := by unfold zuq; rw [if_pos rfl]
theorem zuq_ne {o : Nat → Nat × Nat} {a x : Nat} {b : Nat × Nat} (h : ¬ x = a) : zuq o a b x = o x := by unfold zuq; rw [if_neg h]
theorem zcb_row {t : zS} {s k : Nat} {x pl h : Int32} (hk : ¬ (k = 52 ∨ k = 87 ∨ k = 89 ∨ k = 91 ∨ k = 93 ∨ k = 95 ∨ k = 97 ∨ k = 99 ∨ k = 101 ∨ k = 105 ∨ k = 107)) : zcb t s x pl h k = t k := by
  unfold zcb
  simp (disch := first | omega | decide | assumption) only [zu_same, zu_ne1, zu_ne2, zu_row, pl_bd, pl_pt, pl_let, zn_set, zn_get, zn_rd, zn_wr, zn_1, zn_m, Nat.reduceAdd]
theorem zcb_at {t : zS} {s : Nat} {x pl h : Int32} : zcb t s x pl h 87 s = x ∧ zcb t s x pl h 89 s = pl ∧ zcb t s x pl h 91 s = -1 ∧ zcb t s x pl h 93 s = -1 ∧ zcb t s x pl h 95 s = 0 ∧ zcb t s x pl h 97 s = 0 ∧ zcb t s x pl h 99 s = -1 ∧ zcb t s x pl h 101 s = h ∧ zcb t s x pl h 105 s = -1 ∧ zcb t s x pl h 52 15 = Int32.ofNat (s + 1) ∧ (∀ j, ¬ j = 15 → zcb t s x pl h 52 j = t 52 j) := by
  unfold zcb
  refine ⟨?_, ?_, ?_, ?_, ?_, ?_, ?_, ?_, ?_, ?_, fun j hj => ?_⟩ <;> simp (disch := first | omega | decide | assumption) only [zu_same, zu_ne1, zu_ne2, zu_row, pl_bd, pl_pt, pl_let, zn_set, zn_get, zn_rd, zn_wr, zn_1, zn_m, Nat.reduceAdd]
theorem zcb_107 {t : zS} {s : Nat} {x pl h : Int32} : zcb t s x pl h 107 s = 0 := by
  unfold zcb
  simp (disch := first | omega | decide | assumption) only [zu_same, zu_ne1, zu_ne2, zu_row, pl_bd, pl_pt, pl_let, zn_set, zn_get, zn_rd, zn_wr, zn_1, zn_m, Nat.reduceAdd]
theorem zmb_row {u : zS} {s k : Nat} {x : Int32} (hk : ¬ (k = 0 ∨ (14 ≤ k ∧ k ≤ 20))) : zmb u s x k = u k := by
  unfold zmb
  simp (disch := first | omega | decide | assumption) only [zu_same, zu_ne1, zu_ne2, zu_row, pl_bd, pl_pt, pl_let, zn_set, zn_get, zn_rd, zn_wr, zn_1, zn_m, Nat.reduceAdd]
theorem zmb_at {u : zS} {s : Nat} {x : Int32} : zmb u s x 14 s = x ∧ zmb u s x 15 s = u 0 6 ∧ zmb u s x 16 s = -1 ∧ zmb u s x 17 s = -1 ∧ zmb u s x 18 s = -1 ∧ zmb u s x 19 s = -1 ∧ zmb u s x 20 s = -1 ∧ zmb u s x 0 26 = Int32.ofNat (s + 1) ∧ (∀ j, ¬ j = 26 → zmb u s x 0 j = u 0 j) := by
  unfold zmb
  refine ⟨?_, ?_, ?_, ?_, ?_, ?_, ?_, ?_, fun j hj => ?_⟩ <;> simp (disch := first | omega | decide | assumption) only [zu_same, zu_ne1, zu_ne2, zu_row, pl_bd, pl_pt, pl_let, zn_set, zn_get, zn_rd, zn_wr, zn_1, zn_m, Nat.reduceAdd]
theorem zUW_begun {G : zTxt} {i d p b H : Nat} {f : Nat → Nat} {N M A S n F C R W V q : Nat} {o : Nat → Nat × Nat} {w : Nat → Nat} {Y Z : List Nat} {t u : zS} {x y pl h : Int32} (hB : zBB G i d p b H f N M A S n F C R W V q o w Y Z t u) : zUW G i i d p b H f N M A S n F C R W V q n F C o w t u (zcb t S x pl h) (zmb u S y) := by
  obtain ⟨⟨b1, b2, b3, b4, b5, b6⟩, a2, a3, a4, a5, a6, a7, a8, a9, a10, a11, a12, a13⟩ := hB
  have m0 : ∀ j, ¬ j = 26 → zmb u S y 0 j = u 0 j := zmb_at.2.2.2.2.2.2.2.2
  refine ⟨⟨zAt_of b1 (fun j _ _ => by rw [zcb_row (by omega)]) (zcb_row (by omega)) (by rw [zcb_row (by omega)]) (fun j _ _ => m0 j (by omega)) (zmb_row (by omega)) (zmb_row (by omega)) (zmb_row (by omega)), by rw [zcb_row (by omega)]; exact b2, by rw [m0 10 (by omega)]; exact b3, zSl_of b4 (Nat.le_refl _) (by rw [zcb_row (by omega)]) (m0 60 (by omega)) (zcb_row (by omega)) (zcb_row (by omega)) (zcb_row (by omega)) (zmb_row (by omega)) (zmb_row (by omega)), by rw [zcb_row (by omega)]; exact b5, by rw [m0 42 (by omega)]; exact b6⟩,
    ⟨Nat.le_refl _, Nat.le_refl _, Nat.le_refl _, Nat.le_refl _, Nat.le_refl _, Nat.le_refl _, Nat.le_refl _, Nat.le_refl _, fun _ _ => rfl, fun _ _ => rfl, ?_, ?_, fun j hj => m0 j (by omega)⟩,
    zAK_fr a2 (by rw [zcb_row (by omega)]) (m0 52 (by omega)) (zcb_row (by omega)) (zcb_row (by omega)) (zcb_row (by omega)) (fun s hs => by unfold zcb; simp (disch := first | omega | decide | assumption) only [zu_same, zu_ne1, zu_ne2, zu_row, pl_bd, pl_pt, pl_let, zn_set, zn_get, zn_rd, zn_wr, zn_1, zn_m, Nat.reduceAdd]) (fun s hs => by unfold zcb; simp (disch := first | omega | decide | assumption) only [zu_same, zu_ne1, zu_ne2, zu_row, pl_bd, pl_pt, pl_let, zn_set, zn_get, zn_rd, zn_wr, zn_1, zn_m, Nat.reduceAdd]) (zmb_row (by omega)) (zmb_row (by omega)) (zmb_row (by omega)) (zmb_row (by omega)) (zmb_row (by omega)) (zmb_row (by omega)),
    zcb_at.2.2.2.2.2.2.2.2.2.1, zmb_at.2.2.2.2.2.2.2.1, by rw [zcb_row (by omega)]; exact a5, by rw [m0 39 (by omega)]; exact a6, by rw [zcb_at.2.2.2.2.2.2.2.2.2.2 16 (by omega)]; exact a7, by rw [m0 36 (by omega)]; exact a8, by rw [m0 59 (by omega)]; exact a9, by rw [m0 19 (by omega)]; exact a10, Nat.le_refl _, Nat.le_refl _, Nat.le_refl _, Nat.le_refl _, ?_, ?_⟩
  · unfold zcb
    exact zLm_zu (zLm_zu (zLm_zu (zLm_zu (zLm_zu (zLm_zu (zLm_zu (zLm_zu (zLm_zu (zLm_zu (zLm_zu (zLm_refl _ _) (Nat.le_refl S)) (Nat.le_refl S)) (Nat.le_refl S)) (Nat.le_refl S)) (Nat.le_refl S)) (Nat.le_refl S)) (Nat.le_refl S)) (Nat.le_refl S)) (Nat.le_refl S)) (Nat.le_refl S)) (Nat.zero_le _)
  · unfold zmb
    exact zLm_zu (zLm_zu (zLm_zu (zLm_zu (zLm_zu (zLm_zu (zLm_zu (zLm_zu (zLm_refl _ _) (Nat.le_refl S)) (Nat.le_refl S)) (Nat.le_refl S)) (Nat.le_refl S)) (Nat.le_refl S)) (Nat.le_refl S)) (Nat.le_refl S)) (Nat.zero_le _)
  · unfold zcb
    exact zFP_zu (zFP_zu (zFP_zu (zFP_zu (zFP_zu (zFP_zu (zFP_zu (zFP_zu (zFP_zu (zFP_zu (zFP_zu (zFP_refl _ _) rfl) rfl) rfl) rfl) rfl) rfl) rfl) rfl) rfl) rfl) rfl
  · unfold zmb
    exact zFP_zu (zFP_zu (zFP_zu (zFP_zu (zFP_zu (zFP_zu (zFP_zu (zFP_zu (zFP_refl _ _) rfl) rfl) rfl) rfl) rfl) rfl) rfl) rfl
theorem zAK_S {B : List Nat} {f : Nat → Nat} {N M S S2 q : Nat} {t u : zS} (h : zAK B f N M S q t u) (hS : S2 = S + 1) (h87 : ¬ (t 87 S = 8 ∨ t 87 S = 9)) : zAK B f N M S2 q t u := by
  obtain ⟨a1, a2, a3, a4, a5⟩ := h
  refine ⟨a1, a2, fun k hk => ?_, a4, fun s hs hk => a5 s (by
    rcases Nat.lt_or_ge s S with w | w
    · exact w
    · exact absurd (by rw [← show s = S by omega]; exact hk) h87) hk⟩
  obtain ⟨b1, v, w, b2, b3, b4, b5⟩ := a3 k hk
  refine ⟨b1, v, w, b2, b3, b4, ?_⟩
  rcases b5 with b5 | ⟨c1, c2, s, c3, c4⟩
  · exact Or.inl b5
  · exact Or.inr ⟨c1, c2, s, by omega, c4⟩
/-- the holder of a BLOCK whose statements have depth e -/
def zHd (o : Nat → Nat × Nat) (S p e : Nat) (t : zS) (hx : Int32) : Prop := (hx = -1 ∧ e = 0) ∨ ∃ h, hx = Int32.ofNat h ∧ h < S ∧ (e, p) = ((o h).1 + 1, (o h).2) ∧ (t 87 h = 7 ∨ t 87 h = 10 ∨ t 87 h = 12)
theorem zHd_pa {o o2 : Nat → Nat × Nat} {S p e : Nat} {t t2 : zS} {hx : Int32} (h : zHd o S p e t hx) (he : e ≤ 39) (ho : ∀ s, (s < S ∨ (10000 ≤ s ∧ s < 10000 + S)) → o2 s = o s) (hoS : o2 S = (e, p)) (h101 : t2 101 S = hx) (h87 : ∀ r, r < S → t2 87 r = t 87 r) (h107 : zP0 t2 S) : zPa o2 t2 S := by
  refine ⟨⟨by rw [hoS]; exact he, h107⟩, ?_⟩
  rw [h101, hoS]
  rcases h with ⟨a, b⟩ | ⟨r, a1, a2, a3, a4⟩
  · exact Or.inl ⟨a, b⟩
  · exact Or.inr ⟨r, a1, a2, by rw [ho r (Or.inl a2)]; exact a3, by rw [h87 r a2]; exact a4⟩
/-- a STATEMENT that holds no others is over -/
theorem zBB_simple {G : zTxt} {i i2 d p b H : Nat} {f : Nat → Nat} {N M A S n F C R W V q n2 F2 C2 e : Nat} {o : Nat → Nat × Nat} {w : Nat → Nat} {Y Z : List Nat} {t0 u0 t u : zS} {hx : Int32} (h : zBB G i d p b H f N M A S n F C R W V q o w Y Z t0 u0) (hU : zUW G i i2 d p b H f N M A S n F C R W V q n2 F2 C2 o w t0 u0 t u) (hn : b + n ≤ i) (hS : S < 1000) (hH : zHd o S p e t0 hx) (he : e ≤ 39) (h101 : t 101 S = hx) (h107 : t 107 S = 0) (h87 : ¬ (t 87 S = 8 ∨ t 87 S = 9)) (hst : zStm G (zuq o S (e, p)) w (S + 1) F2 C2 R W V t u S) :
    zBB G i2 d p b H f N M A (S + 1) n2 F2 C2 R W V q (zuq o S (e, p)) w Y (S :: Z) t u ∧ zBX p b H S n F C R W V q (S + 1) n2 F2 C2 R W V q o (zuq o S (e, p)) w w t0 u0 t u := by
  obtain ⟨a1, a2, a3, a4, a5, a6, a7, a8, a9, a10, a11, a12, a13, a14, a15, a16, a17⟩ := hU
  have hl := zAt_lt a1.1
  have ho : ∀ s, (s < S ∨ (10000 ≤ s ∧ s < 10000 + S)) → zuq o S (e, p) s = o s := fun s hs => zuq_ne (by omega)
  obtain ⟨x1, x2, x3, x4, x5, x6, x7, x8, x9, x10, x11, x12, x13⟩ := a2
  have hX : zBX p b H S n F C R W V q (S + 1) n2 F2 C2 R W V q o (zuq o S (e, p)) w w t0 u0 t u := ⟨by omega, x2, x3, x4, x5, x6, x7, x8, ho, fun _ _ => rfl, x11, x12, x13⟩
  refine ⟨zBB_of h hX a1 (zAK_S a3 rfl h87) (by omega) (by omega) a4 a5 a6 a7 a8 a9 a10 (fun s _ hs => hs) (fun s _ hs w => hs (List.mem_cons_of_mem _ w)) (fun s s1 s2 => ?_), hX⟩
  have es : s = S := by omega
  subst es
  refine ⟨fun _ => hst, fun w => absurd List.mem_cons_self w, zHd_pa hH he ho (zuq_at _ _ _) h101 (fun r hr => x11 87 r hr) (fun _ => h107), by rw [zuq_at]; exact Nat.le_refl _⟩
