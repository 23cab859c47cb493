/-! CHECK: what stays, and statements that hold no others -/
/-- what the class's check changes -/
def zPk (t t2 : zS) : Prop := ∀ x, (t 87 x = 17 ∨ t 87 x = 13 ∨ t 87 x = 14) → t2 107 x = t 107 x
def zCf (t t2 : zS) : Prop := (∀ j, ¬ j = 12 → t2 3 j = t 3 j) ∧ ((∀ j, ¬ (j = 5 ∨ j = 6) → t2 6 j = t 6 j) ∧ zPk t t2) ∧ ∀ k, ¬ (k = 3 ∨ k = 6 ∨ k = 29 ∨ k = 31 ∨ k = 58 ∨ k = 107 ∨ k = 113) → t2 k = t k
/-- what the reference's check changes -/
def zCm (u u2 : zS) : Prop := (∀ j, ¬ (j = 65 ∨ j = 67 ∨ j = 68 ∨ j = 70) → u2 0 j = u 0 j) ∧ ∀ k, ¬ (k = 0 ∨ k = 40 ∨ k = 41 ∨ k = 42 ∨ k = 43) → u2 k = u k
theorem zCf_refl (t : zS) : zCf t t := ⟨fun _ _ => rfl, ⟨fun _ _ => rfl, fun _ _ => rfl⟩, fun _ _ => rfl⟩
theorem zCm_refl (t : zS) : zCm t t := ⟨fun _ _ => rfl, fun _ _ => rfl⟩
theorem zCf_trans {a b c : zS} (h : zCf a b) (h2 : zCf b c) : zCf a c := ⟨fun j hj => (h2.1 j hj).trans (h.1 j hj), ⟨fun j hj => (h2.2.1.1 j hj).trans (h.2.1.1 j hj), fun x hx => (h2.2.1.2 x (by rw [h.2.2 87 (by decide)]; exact hx)).trans (h.2.1.2 x hx)⟩, fun j hj => (h2.2.2 j hj).trans (h.2.2 j hj)⟩
theorem zCm_trans {a b c : zS} (h : zCm a b) (h2 : zCm b c) : zCm a c := ⟨fun j hj => (h2.1 j hj).trans (h.1 j hj), fun j hj => (h2.2 j hj).trans (h.2 j hj)⟩
theorem zCf_zu {t : zS} {k j : Nat} {v : Int32} (h : k = 58 ∨ (k = 107 ∧ ¬ (t 87 j = 17 ∨ t 87 j = 13 ∨ t 87 j = 14)) ∨ k = 113 ∨ (k = 6 ∧ (j = 5 ∨ j = 6))) : zCf t (zu t k j v) := by
  refine ⟨fun l _ => zu_ne1 (by omega), ⟨fun l hl => ?_, fun x hx => ?_⟩, fun l hl => zu_row (by omega)⟩
  · by_cases e : k = 6
    · subst e; exact zu_ne2 (by omega)
    · exact zu_ne1 (fun w => e w.symm)
  · by_cases e : k = 107
    · by_cases e2 : x = j
      · subst e2
        rcases h with h | h | h | h
        · omega
        · exact absurd hx h.2
        · omega
        · omega
      · exact zu_ne2 e2
    · exact zu_ne1 (fun w => e w.symm)
theorem zCm_zu {u : zS} {k j : Nat} {v : Int32} (h : k = 42 ∨ k = 43 ∨ (k = 0 ∧ (j = 67 ∨ j = 68 ∨ j = 70))) : zCm u (zu u k j v) := by
  refine ⟨fun l hl => ?_, fun l hl => zu_row (by omega)⟩
  by_cases e : k = 0
  · subst e; exact zu_ne2 (by omega)
  · exact zu_ne1 (fun w => e w.symm)
theorem zCf_c {t t2 : zS} (h : zFc t t2) : zCf t t2 := ⟨h.1, ⟨fun j _ => by rw [h.2 6 (by decide)], fun x _ => by rw [h.2 107 (by decide)]⟩, fun k hk => h.2 k (by omega)⟩
theorem zCm_m {u u2 : zS} (h : zFm2 u u2) : zCm u u2 := ⟨fun j hj => h.1 j (by omega), fun k hk => h.2 k (by omega)⟩
theorem zTr_f {t t2 : zS} (h : zCf t t2) : zTr t t2 := ⟨h.2.2 9 (by decide), h.2.2 11 (by decide), h.2.2 13 (by decide), h.2.2 15 (by decide), h.2.2 17 (by decide), h.2.2 19 (by decide), h.2.2 21 (by decide), h.2.2 23 (by decide), h.2.2 25 (by decide), h.1 13 (by decide), h.1 14 (by decide), h.1 15 (by decide)⟩
theorem zTrM_c {u u2 : zS} (h : zCm u u2) : zTrM u u2 := ⟨h.2 5 (by decide), h.2 6 (by decide), h.2 7 (by decide), h.2 8 (by decide), h.2 9 (by decide), h.2 10 (by decide), h.2 11 (by decide), h.2 12 (by decide), h.2 13 (by decide), h.1 14 (by decide), h.1 19 (by decide), h.1 22 (by decide)⟩
/-- a good program while it is checked -/
def zCx (G : zTxt) (f : Nat → Nat) (N M P A T Q Pa bb S F C R W V : Nat) (o : Nat → Nat × Nat) (w : Nat → Nat) (t u : zS) : Prop := zTG G f N M P A T t u ∧ zBg T t ∧ zKp N t ∧ zPs2 G f N Q Q Pa bb S F C R W V o w t u ∧ zCp Q S t u ∧ F ≤ 3000 ∧ C ≤ 8000 ∧ S ≤ 1000 ∧ Q ≤ 300 ∧ R ≤ 1500 ∧ W ≤ 1500 ∧ V ≤ 1500 ∧ bb ≤ 3000 ∧ Pa ≤ 1500
theorem zPs2_f {G : zTxt} {f : Nat → Nat} {N K Q Pa bb S F C R W V : Nat} {o : Nat → Nat × Nat} {w : Nat → Nat} {t u t2 u2 : zS} (h : zPs2 G f N K Q Pa bb S F C R W V o w t u) (ht : zCf t t2) (hu : zCm u u2) : zPs2 G f N K Q Pa bb S F C R W V o w t2 u2 := by
  obtain ⟨a1, a2, a3, a4, a5, a6, a7, a8, a9, a10, a11, a12, a13, a14, a15, a16⟩ := h
  have r : ∀ k, ¬ (k = 3 ∨ k = 6 ∨ k = 29 ∨ k = 31 ∨ k = 58 ∨ k = 107 ∨ k = 113) → t2 k = t k := ht.2.2
  have g : ∀ k, ¬ (k = 0 ∨ k = 40 ∨ k = 41 ∨ k = 42 ∨ k = 43) → u2 k = u k := hu.2
  have r0 : ∀ j, ¬ (j = 65 ∨ j = 67 ∨ j = 68 ∨ j = 70) → u2 0 j = u 0 j := hu.1
  refine ⟨by rw [r 4 (by decide)]; exact a1, by rw [r0 44 (by decide)]; exact a2, by rw [r 4 (by decide)]; exact a3, by rw [g 31 (by decide)]; exact a4, by rw [r 33 (by decide), g 28 (by decide)]; exact a5, by rw [r 49 (by decide)]; exact a6, fun x hx => ?_, by rw [r 51 (by decide)]; exact a8, by rw [r0 42 (by decide)]; exact a9, by rw [r 52 (by decide)]; exact a10, by rw [r0 26 (by decide)]; exact a11, by rw [r 51 (by decide)]; exact a12, by rw [r0 39 (by decide)]; exact a13, by rw [r 52 (by decide)]; exact a14, by rw [r0 36 (by decide)]; exact a15, fun s hs => ?_⟩
  · have := a7 x hx
    unfold zPd at *
    rw [r 39 (by decide), g 31 (by decide), r 37 (by decide), g 32 (by decide), r 35 (by decide), r 45 (by decide), g 34 (by decide), r 41 (by decide), g 29 (by decide), r 101 (by decide), r 43 (by decide), g 30 (by decide)]
    exact this
  · obtain ⟨c1, c2, c3, c4⟩ := a16 s hs
    refine ⟨zStm_ext c1 hs (Nat.le_refl _) (Nat.le_refl _) (Nat.le_refl _) (Nat.le_refl _) (Nat.le_refl _) (Nat.le_refl _) (fun _ _ => rfl) (fun k hk => by rw [r k (by omega)]) (fun k hk => by rw [g k (by omega)]) (fun _ _ => by rw [r 101 (by decide)]) (fun _ _ => ⟨by rw [r 75 (by decide)], by rw [r 77 (by decide)]⟩) (fun c _ => by rw [g 27 (by decide)]) (fun _ _ => ⟨by rw [r 79 (by decide)], by rw [r 81 (by decide)], by rw [r 83 (by decide)]⟩) (fun x _ => ⟨by rw [g 25 (by decide)], by rw [g 26 (by decide)]⟩) (fun x _ hw => ⟨hw, by rw [r 109 (by decide)], by rw [r 111 (by decide)], by rw [r 115 (by decide)]⟩) (fun x _ => ⟨by rw [g 23 (by decide)], by rw [g 24 (by decide)]⟩) (fun m hm hm2 => ⟨m, by rw [r 39 (by decide)]; exact hm, Nat.le_refl _, hm2⟩), ?_, ?_, c4⟩
    · unfold zLn zBeh at *
      rw [r 99 (by decide), g 22 (by decide), g 21 (by decide), r 101 (by decide), r 87 (by decide)]
      exact c2
    · unfold zPa zP0 at *
      rw [r 101 (by decide), r 87 (by decide)]
      exact ⟨⟨c3.1.1, fun w => by rw [ht.2.1.2 s w]; exact c3.1.2 w⟩, c3.2⟩
theorem zCx_of {G : zTxt} {f : Nat → Nat} {N M P A T Q Pa bb S F C R W V : Nat} {o : Nat → Nat × Nat} {w : Nat → Nat} {t u t2 u2 : zS} (h : zCx G f N M P A T Q Pa bb S F C R W V o w t u) (ht : zCf t t2) (hu : zCm u u2) (hk : zKp N t2) : zCx G f N M P A T Q Pa bb S F C R W V o w t2 u2 := by
  obtain ⟨a1, a2, a3, a4, a5, a6⟩ := h
  refine ⟨zTG_of a1 (zTr_f ht) (zTrM_c hu), zBg_of a2 (zTr_f ht) (ht.2.2 27 (by decide)), hk, zPs2_f a4 ht hu, ?_, a6⟩
  unfold zCp at *
  rw [ht.2.2 87 (by decide), ht.2.2 33 (by decide), ht.2.2 93 (by decide), hu.2 17 (by decide)]
  exact a5
/-- in the middle of a proc's check: n slots, depth d -/
def zCk (f : Nat → Nat) (N n d q : Nat) (t u : zS) : Prop := t 6 5 = Int32.ofNat n ∧ t 6 6 = -1 ∧ u 0 67 = -1 ∧ u 0 68 = Int32.ofNat q ∧ t 39 q = Int32.ofNat n ∧ n ≤ 1100 ∧ d ≤ 40 ∧ zRw f N n d t u
theorem pl_kindOf_m {t : zS} : mX2_kindOf (-1) t = some (-1, t) := by
  have e : mX5_get 8 3000 ((-1 : Int32) >>> (1 &&& 31)) t = some (-1, t) := by
    rw [show (-1 : Int32) >>> (1 &&& 31 : Int32) = -1 by decide]
    unfold mX5_get
    rfl
  unfold mX2_kindOf
  rw [e, pl_bd, if_pos (by decide)]
/-- the kind that the class sees in a slot -/
def zKs (t : zS) (x : Int32) : Int32 := if x < 0 then -1 else (zD t).kd x.toNatClampNeg
theorem pl_kindS {G : zTxt} {f : Nat → Nat} {N M P A T : Nat} {t u : zS} {x y : Int32} (h : zTG G f N M P A T t u) (hr : zRs (zD t) N t f x y) : mX2_kindOf x t = some (zKs t x, t) := by
  rcases zRs_neg h hr with ⟨a, _, _, _, e, _⟩ | ⟨a, _, _, _, x', y', v1, v2, v3, v4, v5, v6⟩
  · unfold zKs
    rw [if_pos a, e]; exact pl_kindOf_m
  · unfold zKs
    rw [if_neg a, v5, pl_kindOf (zV_lt h v1), show (Int32.ofNat x').toNatClampNeg = x' from pl_clamp (pl_ofn (by have := zV_lt h v1; omega))]
theorem pl_isOne {G : zTxt} {f : Nat → Nat} {N M P A T d k : Nat} {t u : zS} {x : Int32} {kk : Int32} (h : zTG G f N M P A T t u) (hd : d ≤ 43) (hk : k < 1500) (hr : zRs (zD t) N t f x (u 42 (1500 * d + k))) (hkk : kk = 3 ∨ kk = 4 ∨ kk = 5 ∨ kk = 6 ∨ kk = 7 ∨ kk = 8) : mX12_isOne (Int32.ofNat d) (Int32.ofNat k) kk u = some (if zKs t x = kk + 1 then 1 else 0, u) := by
  unfold mX12_isOne
  rw [pl_channel hd hk, pl_bd]
  rcases zRs_neg h hr with ⟨a, a2, _, _, e, _⟩ | ⟨a, a2, _, _, x', y', v1, v2, v3, v4, v5, v6⟩
  · rw [if_pos a2]
    unfold zKs
    rw [if_pos a, if_neg (by rcases hkk with e | e | e | e | e | e <;> rw [e] <;> decide)]
  · rw [if_neg a2, pl_channel hd hk, pl_bd, v6, pl_isOf h v2, pl_bd]
    have ek := (zEq_sm v4).1
    have eK : zKs t x = (zD t).kd y' := by
      unfold zKs
      rw [if_neg a, v5, show (Int32.ofNat x').toNatClampNeg = x' from pl_clamp (pl_ofn (by have := zV_lt h v1; omega)), ek]
    rw [eK]
    have all : ∀ a, a ∈ ([0, 4, 5, 6, 7, 8, 9] : List Int32) → ∀ b, b ∈ ([3, 4, 5, 6, 7, 8] : List Int32) → (zKm a = b ↔ a = b + 1) := by decide
    have ks : (zD t).kd y' ∈ ([0, 4, 5, 6, 7, 8, 9] : List Int32) := by
      rcases zV_at h v2 with ⟨q, _⟩ | ⟨q, _⟩ | ⟨q, _⟩ | ⟨q, _⟩
      · rw [q]; decide
      · rcases q with q | q <;> rw [q] <;> decide
      · rcases q with q | q <;> rw [q] <;> decide
      · rcases q with q | q <;> rw [q] <;> decide
    have := all _ ks kk (by rcases hkk with e | e | e | e | e | e <;> rw [e] <;> decide)
    by_cases c : zKm ((zD t).kd y') = kk
    · rw [if_pos c, if_pos (this.mp c)]
    · rw [if_neg c, if_neg (fun w => c (this.mpr w))]
