/-! CHECK: while -/
theorem zCf_mv {t : zS} {k1 a b n : Nat} : zCf t (zmv t k1 a 58 b n) := ⟨fun j _ => by rw [zmv_row (by decide)], ⟨fun j _ => by rw [zmv_row (by decide)], fun x _ => by rw [zmv_row (by decide)]⟩, fun k hk => zmv_row (by omega)⟩
theorem zCm_mv {u : zS} {k1 a k2 b n : Nat} (h : k2 = 42 ∨ k2 = 43) : zCm u (zmv u k1 a k2 b n) := ⟨fun j _ => by rw [zmv_row (by omega)], fun k hk => zmv_row (by omega)⟩
theorem zKp_mv {N : Nat} {t : zS} {k1 a b n : Nat} (h : zKp N t) : zKp N (zmv t k1 a 58 b n) := zKp_of h (zTr_f zCf_mv) (zmv_row (by decide))
/-- the slots, in any state behind -/
theorem zCk_ownV {G : zTxt} {f : Nat → Nat} {N M P A T Q Pa bb S F C R W V n d q : Nat} {o : Nat → Nat × Nat} {w : Nat → Nat} {t u : zS} (hx : zCx G f N M P A T Q Pa bb S F C R W V o w t u) (hk : zCk f N n d q t u) (hq : q < Q) : ∀ v : zS, v 31 = u 31 → v 0 68 = u 0 68 → mX12_ownMany (v 0 68) v = some (Int32.ofNat n, v) := by
  obtain ⟨hg, hb, hK, hP, _, hF, hC, hS, hQ, hR, hW, hV, hbb, hPa⟩ := hx
  obtain ⟨k1, k2, k3, k4, k5, k6, k7, k8⟩ := hk
  obtain ⟨m, b, kk, a, c1, c2, c3, c4, _⟩ := hP.2.2.2.2.2.2.1 q hq
  have em : m = n := by
    rw [k5] at c1
    exact ((zn_inj (by omega) (by omega)).mp c1).symm
  subst em
  intro v v1 v2
  rw [v2, k4]
  exact pl_own (by omega) (by rw [v1]; exact c2) (by rw [v1]; exact c3) (by omega)
/-- frames of EQUAL and of copies -/
theorem zFrC_c {w : Nat → Nat} {n d kp : Nat} {R : Nat → Prop} {t u g t2 u2 : zS} (h67 : u 0 67 = -1) (h : zFc t t2) (hm : zFm2 u u2) : zFrC w n d kp R t u g t2 u2 g := by
  refine ⟨zCf_c h, zCm_m hm, h.2 6 (by decide), by rw [hm.1 67 (by decide)]; exact h67, hm.1 68 (by decide), hm.1 70 (by decide), fun k _ _ => by rw [h.2 58 (by decide)], fun k _ => by rw [hm.2 42 (by decide)], fun k _ => by rw [hm.2 43 (by decide)], fun x _ _ => ⟨by rw [h.2 107 (by decide)], rfl, rfl, rfl⟩, fun e _ _ => by rw [h.2 113 (by decide)]⟩
theorem zFrC_mvC {w : Nat → Nat} {n d kp a b m : Nat} {R : Nat → Prop} {t u g : zS} (h67 : u 0 67 = -1) (h : b + m ≤ n ∨ n * (1 + 2 * d) ≤ b) : zFrC w n d kp R t u g (zmv t 58 a 58 b m) u g := by
  refine ⟨zCf_mv, zCm_refl _, zmv_row (by decide), h67, rfl, rfl, fun k k1 k2 => zmv_out (by omega), fun k _ => rfl, fun k _ => rfl, fun x _ _ => ⟨by rw [zmv_row (by decide)], rfl, rfl, rfl⟩, fun e _ _ => by rw [zmv_row (by decide)]⟩
theorem zFrC_mvM {w : Nat → Nat} {n d kp k1 a k2 b m : Nat} {R : Nat → Prop} {t u g : zS} (h67 : u 0 67 = -1) (h : (k2 = 42 ∧ 1500 * d ≤ b) ∨ (k2 = 43 ∧ kp ≤ b)) : zFrC w n d kp R t u g t (zmv u k1 a k2 b m) g := by
  refine ⟨zCf_refl _, zCm_mv (by omega), rfl, by rw [zmv_row (by omega)]; exact h67, by rw [zmv_row (by omega)], by rw [zmv_row (by omega)], fun k _ _ => rfl, fun k hk => ?_, fun k hk => ?_, fun x _ _ => ⟨rfl, rfl, rfl, rfl⟩, fun e _ _ => rfl⟩
  · rcases h with ⟨e, h⟩ | ⟨e, h⟩
    · subst e; exact zmv_out (by omega)
    · subst e; rw [zmv_row (by decide)]
  · rcases h with ⟨e, h⟩ | ⟨e, h⟩
    · subst e; rw [zmv_row (by decide)]
    · subst e; exact zmv_out (by omega)
theorem zn_lvl {n d : Nat} : Int32.ofNat n * (1 + (2 * Int32.ofNat d)) = Int32.ofNat (n * (1 + 2 * d)) := by
  apply Int32.toBitVec.inj
  show BitVec.ofNat 32 n * (BitVec.ofNat 32 1 + (BitVec.ofNat 32 2 * BitVec.ofNat 32 d)) = _
  rw [← BitVec.ofNat_mul, ← BitVec.ofNat_add, ← BitVec.ofNat_mul]
  rfl
/-- rows of a BLOCK one deeper: the class holds them at 0, the reference at d + 1 -/
theorem zCk_in {G : zTxt} {f : Nat → Nat} {N M P A T Q Pa bb S F C R W V n d q a : Nat} {o : Nat → Nat × Nat} {w : Nat → Nat} {t u t0 u0 : zS} (hx : zCx G f N M P A T Q Pa bb S F C R W V o w t u) (hc : zCk f N n d q t u) (hd : d + 1 ≤ 40) (hf : zCf t t0) (hm : zCm u u0) (h6 : t0 6 = t 6) (h67 : u0 0 67 = -1) (h68 : u0 0 68 = u 0 68) (ht : ∀ k, k < n → t0 58 k = t 58 k) (hu : ∀ k, k < n → u0 42 (1500 * (d + 1) + k) = u 42 (1500 * d + k)) : zCk f N n (d + 1) q t0 u0 := by
  obtain ⟨k1, k2, k3, k4, k5, k6, k7, k8⟩ := hc
  refine ⟨by rw [h6]; exact k1, by rw [h6]; exact k2, h67, by rw [h68]; exact k4, by rw [hf.2.2 39 (by decide)]; exact k5, k6, hd, fun k hk => ?_⟩
  rw [ht k hk, hu k hk]
  exact zRs_of (zTr_f hf) (k8 k hk)
theorem zFrC_gn {w : Nat → Nat} {n d kp s : Nat} {t u g t2 u2 : zS} {r r2 : Nat → Int32} {b : Int32} (hs : s < 1000) (h : zFrC w n d kp (fun _ => False) t u g t2 u2 g) : zFrC w n d kp (fun x => x = s) t u g t2 u2 (zGn g s r r2 b) := by
  obtain ⟨a1, a2, a3, a4, a5, a6, a7, a8, a9, a10, a11⟩ := h
  exact ⟨a1, a2, a3, a4, a5, a6, a7, a8, a9, fun x x1 x2 => ⟨(a10 x x1 id).1, zGn_ne hs x1 x2⟩, fun e e1 _ => a11 e e1 id⟩
theorem zlv (n d : Nat) : n * (1 + 2 * d) = n + 2 * (n * d) ∧ n * (3 + 2 * d) = 3 * n + 2 * (n * d) ∧ n * (1 + 2 * (d + 1)) = 3 * n + 2 * (n * d) ∧ n * (d + 1) = n * d + n := by
  have e : n * (2 * d) = 2 * (n * d) := Nat.mul_left_comm n 2 d
  refine ⟨by rw [Nat.mul_add, e]; omega, by rw [Nat.mul_add, e]; omega, ?_, by rw [Nat.mul_add]; omega⟩
  rw [show 1 + 2 * (d + 1) = 3 + 2 * d by omega, Nat.mul_add, e]; omega
theorem pl_fail {s : Nat} {t : zS} (hs : s < 1000) : mX1_fail (Int32.ofNat s) t = some (0, zu t 6 6 (t 89 s)) := by
  unfold mX1_fail
  rw [show mX5_get 88 1000 (Int32.ofNat s) t = some (t 89 s, t) from zn_get hs (by decide), pl_bd, pl_pt]
theorem pl_isBad {x : Int32} {u : zS} (h : u 0 67 = -1) : mX12_isBad x u = some (0, zu u 0 67 x) := by
  unfold mX12_isBad
  rw [if_neg (by rw [h]; decide), pl_pt]
