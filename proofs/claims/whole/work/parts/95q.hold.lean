/-! CHECK: a BLOCK inside a statement -/
/-- region of a branch -/
def zRb (S : Nat) (t : zS) (fb : Int32) (x : Nat) : Prop := ∃ r, fb = Int32.ofNat r ∧ r < 1000 ∧ zReg S t r x
/-- one BLOCK of statement s was good -/
def zBrG (w : Nat → Nat) (f : Nat → Nat) (N Q S n d kp : Nat) (fb : Int32) (t u g : zS) (b : Int32) (t2 u2 g2 : zS) : Prop := (b = 0 ∨ b = 1) ∧ zFrC w n (d + 1) kp (zRb S t fb) t u g t2 u2 g2 ∧ zKp N t2 ∧ zRw f N n (d + 1) t2 u2 ∧ (∀ x, zRb S t fb x → zVis g2 x → zAn (zD t) N Q n t2 g2 x) ∧ ((fb = -1 ∧ b = 0 ∧ t2 58 = t 58) ∨ ∃ r, fb = Int32.ofNat r ∧ r < S ∧ g2 r = t 58 ∧ zVis g2 r ∧ ∀ j y, zNxt t j r y → t 99 y = -1 → g2 (2000 + y) = t2 58 ∧ g2 (6000 + y) 0 = b)
theorem zBranchC {gc : GgX1_checkBlock} {gm : GgX12_checkBlock} {G : zTxt} {f : Nat → Nat} {N M P A T Q Pa bb S F C R W V n q d kp s : Nat} {o : Nat → Nat × Nat} {w : Nat → Nat} {t u g : zS} {fb fb' : Int32} (hB : zPC G f N M P A T Q Pa bb S F C R W V o w n q (d + 1) (mX1_checkBlock gc) (mX12_checkBlock gm)) (hx : zCx G f N M P A T Q Pa bb S F C R W V o w t u) (hc : zCk f N n (d + 1) q t u) (h70 : u 0 70 = Int32.ofNat kp) (hkp : kp ≤ n * (d + 1)) (hs : s < S) (ho : o s = (d, q)) (hfb : (fb = -1 ∧ fb' < 0) ∨ ∃ r, fb = Int32.ofNat r ∧ fb' = Int32.ofNat r ∧ r < S ∧ o r = ((o s).1 + 1, (o s).2)) (hv : ∀ x, zRb S t fb x → ¬ zVis g x) : ∃ b b' t2 u2 g2, mX1_checkBlock gc fb (Int32.ofNat (d + 1)) t = some (b, t2) ∧ mX12_checkBlock gm fb' (Int32.ofNat (d + 1)) u = some (b', u2) ∧ (zBadC t u b t2 u2 ∨ (b' = b ∧ zBrG w f N Q S n d kp fb t u g b t2 u2 g2)) := by
  have hS := (zTre_x hx).1
  rcases hfb with ⟨e1, e2⟩ | ⟨r, e1, e2, e3, e4⟩
  · refine ⟨0, 0, t, u, g, ?_, ?_, Or.inr ⟨rfl, Or.inl rfl, ⟨zCf_refl _, zCm_refl _, rfl, hc.2.2.1, rfl, rfl, fun _ _ _ => rfl, fun _ _ => rfl, fun _ _ => rfl, fun _ _ _ => ⟨rfl, rfl, rfl, rfl⟩, fun _ _ _ => rfl⟩, hx.2.2.1, hc.2.2.2.2.2.2.2, fun x q => ?_, Or.inl ⟨e1, rfl, rfl⟩⟩⟩
    · rw [e1]
      have el : mX1_checkBlock gc (-1) (Int32.ofNat (d + 1)) t = bX1_checkBlock_8 gc (lX1_checkBlock_8 gc (zFU - 1)) (Int32.ofNat (d + 1)) 0 (-1) 0 t := rfl
      rw [el]
      unfold bX1_checkBlock_8
      rw [if_neg (by decide), if_pos (by decide)]
      rfl
    · have el : mX12_checkBlock gm fb' (Int32.ofNat (d + 1)) u = bX12_checkBlock_2 gm (lX12_checkBlock_2 gm (zFU - 1)) (Int32.ofNat (d + 1)) fb' u := rfl
      rw [el]
      unfold bX12_checkBlock_2
      rw [if_pos e2]
    · obtain ⟨r, q1, q2, _⟩ := q
      rw [e1] at q1
      exact absurd (show (0 : Int32) ≤ -1 by rw [q1]; exact zn_0le (by omega)) zn_m1
  · have rb : ∀ x, zRb S t fb x ↔ zReg S t r x := fun x => by
      constructor
      · rintro ⟨r', q1, q2, q3⟩
        rw [e1] at q1
        have := (zn_inj (by omega) (by omega)).mp q1
        rw [this]; exact q3
      · intro q
        exact ⟨r, e1, by omega, q⟩
    obtain ⟨b, b', t2, u2, g2, z1, z2, z3⟩ := hB t u g kp r hx hc h70 hkp e3 (by rw [e4, ho]) (fun x q => hv x ((rb x).mpr q))
    refine ⟨b, b', t2, u2, g2, by rw [e1]; exact z1, by rw [e2]; exact z2, ?_⟩
    rcases z3 with z3 | ⟨z3, z4, z5, z6, z7, z8, z9, z10, z11⟩
    · exact Or.inl z3
    · have er : zRb S t fb = zReg S t r := funext fun x => propext (rb x)
      exact Or.inr ⟨z3, z4, by rw [er]; exact z5, z6, z7, fun x q => z10 x ((rb x).mp q), Or.inr ⟨r, e1, e3, z8, z9, z11⟩⟩
/-- the statement itself, behind its BLOCKS -/
theorem zFinC {G : zTxt} {f : Nat → Nat} {N M P A T Q Pa bb S F C R W V n q d kp s : Nat} {o : Nat → Nat × Nat} {w : Nat → Nat} {t u g t2 u2 g2 t4 u4 : zS} {b : Int32} (hx2 : zCx G f N M P A T Q Pa bb S F C R W V o w t2 u2) (hs : s < S) (hv : ∀ x, x < S → zSub t s x → ¬ zVis g x) (h1 : zFrC w n d kp (fun x => zSub t s x ∧ x < S) t u g t2 u2 g2) (hA : ∀ x, zSub t s x → ¬ x = s → x < S → zVis g2 x → zAn (zD t) N Q n t2 g2 x) (h2 : zFrC w n d kp (fun x => x = s) t2 u2 g2 t4 u4 (zGn g2 s (t 58) (t4 58) b)) (hK : zKp N t4) (hr : zRw f N n d t4 u4) (hb : b = 0 ∨ b = 1) (ha : zAn0 (zD t) N Q n t4 (zGn g2 s (t 58) (t4 58) b) s) : zStG w f N Q S n d kp s t u g b t4 u4 (zGn g2 s (t 58) (t4 58) b) := by
  have tre2 := zTre_x hx2
  have hS := tre2.1
  obtain ⟨g1, gg2, g3, g4⟩ := zGn_at (g := g2) (r := t 58) (r2 := t4 58) (b := b) (show s < 1000 by omega)
  have hf := h1.1
  refine ⟨hb, zFrC_trans h1 h2 (fun x q => q) (fun x q => by rw [q]; exact ⟨zSub_refl t s, hs⟩), hK, hr, g1, gg2, g3, g4, ha, fun x q1 q2 q3 q4 => ?_⟩
  have gs := zGn_ne (g := g2) (r := t 58) (r2 := t4 58) (b := b) (show s < 1000 by omega) (show x < 1000 by omega) q2
  have v2 : zVis g2 x := by
    unfold zVis at *
    rw [gs.2.2] at q4
    exact q4
  have sub2 : zSub t2 s x := (zSub_f hf s x).mpr q1
  have dx : (o s).1 < (o x).1 := by
    obtain ⟨k, k1⟩ := sub2
    have := (zAnc_at tre2 k s x q3 k1).2.2.1
    cases k with
    | zero => exact absurd k1 q2
    | succ k => omega
  refine zAn_keep hx2 q3 (hA x q1 q2 q3 v2) h2 (fun y y1 y2 y3 => ?_) (fun r q5 q6 q7 => ?_)
  · subst y3
    obtain ⟨k, k1⟩ := y1
    have := (zAnc_at tre2 k x y y2 k1).2.2.1
    omega
  · subst q7
    obtain ⟨_, _, o3, _⟩ := zNxt_at tre2 1 x r q3 ⟨r, q5, q6, rfl⟩
    rw [o3] at dx
    omega
/-- frames of a BLOCK seen from outside -/
theorem zFrC_up {w : Nat → Nat} {n d kp kp2 : Nat} {R R2 : Nat → Prop} {t u g t2 u2 g2 : zS} (h : zFrC w n (d + 1) kp2 R t u g t2 u2 g2) (hk : kp ≤ kp2) (hR : ∀ x, R x → R2 x) : zFrC w n d kp R2 t u g t2 u2 g2 := by
  obtain ⟨a1, a2, a3, a4, a5, a6, a7, a8, a9, a10, a11⟩ := h
  refine ⟨a1, a2, a3, a4, a5, a6, fun k k1 k2 => a7 k k1 (Nat.lt_of_lt_of_le k2 (Nat.mul_le_mul_left n (by omega))), fun k hk' => a8 k (by omega), fun k hk' => a9 k (by omega), fun x x1 x2 => a10 x x1 (fun q => x2 (hR x q)), fun e e1 e2 => a11 e e1 (fun q => e2 (hR _ q))⟩
