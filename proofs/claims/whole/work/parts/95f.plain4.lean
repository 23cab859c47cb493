/-! CHECK: pick; all plain statements -/
theorem zPickC {G : zTxt} {f : Nat → Nat} {N M P A T Q Pa bb S F C R W V n d q s : Nat} {o : Nat → Nat × Nat} {w : Nat → Nat} {t u : zS} (g : GgX12_checkBlock) (hx : zCx G f N M P A T Q Pa bb S F C R W V o w t u) (hk : zCk f N n d q t u) (hs : s < S) (hq : (o s).2 = q) (hkd : t 87 s = 6) : ∃ b t2 u2, mX1_isGoodPlain (Int32.ofNat s) (t 87 s) t = some (b, t2) ∧ mX12_checkOne g (Int32.ofNat s) (Int32.ofNat d) u = some (0, u2) ∧ zP1 f N n d s t u b t2 u2 := by
  have hx0 := hx
  have hk0 := hk
  obtain ⟨hg, hb, hK, hP, _, hF, hC, hS, _⟩ := hx
  obtain ⟨k1, k2, k3, k4, k5, k6, k7, k8⟩ := hk
  have hN := hg.2.2.2.1
  obtain ⟨⟨⟨p1, p2⟩, hst⟩, _, _, _⟩ := hP.2.2.2.2.2.2.2.2.2.2.2.2.2.2.2 s hs
  have hs1 : s < 1000 := by omega
  have hs16 : s < 1600 := by omega
  have r1 : zC1 N n d s t u t u := zC1_refl hK
  have hbad : zP1 f N n d s t u 0 t (zu u 0 67 (u 15 s)) := zP1_bad r1 p1 rfl
  rcases hst with ⟨e1, _⟩ | ⟨e1, _⟩ | ⟨e1, _⟩ | ⟨e1, e1', e2, e3, e4⟩ | ⟨e1, _⟩ | ⟨e1, _⟩ | ⟨e1, _⟩ | ⟨e1, _⟩ | ⟨e1, _⟩
  · exact absurd hkd (by rcases e1 with e | e <;> rw [e.1] <;> decide)
  · exact absurd hkd (by rw [e1]; decide)
  · exact absurd hkd (by rcases e1 with e | e | e <;> rw [e.1] <;> decide)
  · rw [hq] at e2
    obtain ⟨c, c1, c2, c3⟩ := zSo_n e2 k5 k6
    obtain ⟨v, x, l1, l2, l3, l4⟩ := e3
    have g57 : mX5_get 57 80000 (t 91 s) t = some (t 58 c, t) := by rw [c2]; exact zn_get (by omega) (by decide)
    have g57' : mX5_get 57 80000 (t 93 s) t = some (t 58 v, t) := by rw [l2]; exact zn_get (by omega) (by decide)
    have hw : mX3_isWithout (t 95 s) (t 97 s) t = some (1, t) := by
      rw [e4.1, e4.2.1]
      show bX3_isWithout_3 (lX3_isWithout_3 (zFU - 1)) 0 0 t = _
      unfold bX3_isWithout_3
      rw [if_pos (by decide)]
    have hr := k8 c c1
    have GP := fun x2 => pl_gp (x2 := x2) hs1 g57 (pl_kindS hg hr) g57' hw
    have n14 : ¬ u 14 s = 9 := by rw [e1']; decide
    unfold mX12_checkOne
    rw [zn_rd hs16 (by decide), zn_rd hs16 (by decide), zn_rd hs16 (by decide), c3, e1, GP, e1']
    simp only [show ¬ (6 : Int32) = 2 by decide, show ¬ (6 : Int32) = 3 by decide, show ¬ (6 : Int32) = 4 by decide, show ¬ (6 : Int32) = 5 by decide, show ¬ (5 : Int32) = 0 by decide, show ¬ (5 : Int32) = 1 by decide, show ¬ (5 : Int32) = 2 by decide, show ¬ (5 : Int32) = 3 by decide, show ¬ (5 : Int32) = 4 by decide, if_false, if_true]
    rw [pl_isOne hg (by omega) (by omega) hr (Or.inr (Or.inr (Or.inr (Or.inr (Or.inl rfl))))), pl_bd]
    unfold bX12_checkOne_467 bX12_checkOne_479
    by_cases q4 : zKs t (t 58 c) = 8
    · rw [if_pos q4, if_pos (show zKs t (t 58 c) = 7 + 1 from q4), if_neg pl_10, pl_channel (by omega) (by omega), pl_bd]
      obtain ⟨a, a', v1, v2, v4, v5, v6, ka, ka'⟩ := zKs_at hg hr q4 (by decide)
      have la := zV_lt hg v1
      have al := ((zEq_sm v4).2.2.2 (Or.inl ka)).2 (t 93 s)
      rw [v5, v6, l3]
      rcases pl_byLabelC hg v1 (Or.inl ka) (t 93 s) with ⟨b1, b2⟩ | ⟨dd, b0, b1, b2⟩
      · rcases pl_byLabelM hg v2 (Or.inl ka') l1 l4 with ⟨b3, b4⟩ | ⟨y, b0', b3, b4⟩
        · have gm : mX1_goOn (Int32.ofNat s) (-1) t = some (0, t) := by
            unfold mX1_goOn
            rw [if_neg zn_m1]
          rw [b1, pl_bd, gm, pl_bd, if_pos rfl, b3, pl_bd, if_pos (by decide), if_pos rfl, pl_527b hs16 k3 n14]
          exact ⟨_, _, _, rfl, rfl, hbad⟩
        · rw [b2, l2, b4] at al
          exact al.elim
      · rcases pl_byLabelM hg v2 (Or.inl ka') l1 l4 with ⟨b3, b4⟩ | ⟨y, b0', b3, b4⟩
        · rw [b2, l2, b4] at al
          exact al.elim
        · have vy := zV_sg (s := 2 * dd + a % 2) hg (by omega)
          have lF := (zF_lt hg b0'.1).1
          have b2' := b2
          rw [b2, l2, b4] at al
          obtain ⟨z1, z2, z3, z4⟩ := zGc (s := s) hx0 hk0 c1 vy b0' al (by rw [e1]; decide)
          rw [b1, pl_bd, pl_goOnC hg hb hs1 c2 (by omega) (by omega), pl_bd, if_neg pl_10, b3, pl_bd, if_neg (zn_neg (by omega)), if_neg pl_10, pl_setCh hg (by omega) (by omega) b0', pl_bd, pl_527g hs16 (by rw [zu_ne1 (by decide)]; exact n14)]
          exact ⟨_, _, _, rfl, rfl, z1, Or.inr ⟨rfl, by rw [zu_ne1 (by decide)]; exact k3, z2, Or.inr (Or.inr (Or.inr (Or.inr (Or.inr (Or.inr ⟨by rw [z1.1.2.2 87 (by decide)]; exact e1, c, a, _, ⟨by rw [z1.1.2.2 91 (by decide)]; exact c2, by omega⟩, v5, (zV_of (zTr_f z1.1) _).mpr v1, ka, by rw [z1.1.2.2 93 (by decide)]; exact b2', z4, z3⟩)))))⟩⟩
    · rw [if_neg q4, if_neg (show ¬ zKs t (t 58 c) = 7 + 1 from q4), if_pos rfl, if_pos (by decide), if_pos rfl, pl_527b hs16 k3 n14]
      exact ⟨_, _, _, rfl, rfl, hbad⟩
  · exact absurd hkd (by rw [e1]; decide)
  · exact absurd hkd (by rw [e1]; decide)
  · exact absurd hkd (by rcases e1 with e | e | e <;> rw [e.1] <;> decide)
  · exact absurd hkd (by rw [e1]; decide)
  · exact absurd hkd (by rw [e1]; decide)
theorem zPlain {G : zTxt} {f : Nat → Nat} {N M P A T Q Pa bb S F C R W V n d q s : Nat} {o : Nat → Nat × Nat} {w : Nat → Nat} {t u : zS} (g : GgX12_checkBlock) (hx : zCx G f N M P A T Q Pa bb S F C R W V o w t u) (hk : zCk f N n d q t u) (hs : s < S) (hq : (o s).2 = q) (hkd : ¬ (t 87 s = 7 ∨ t 87 s = 8 ∨ t 87 s = 9 ∨ t 87 s = 10 ∨ t 87 s = 12)) : ∃ b t2 u2, mX1_isGoodPlain (Int32.ofNat s) (t 87 s) t = some (b, t2) ∧ mX12_checkOne g (Int32.ofNat s) (Int32.ofNat d) u = some (0, u2) ∧ zP1 f N n d s t u b t2 u2 := by
  have hst := (hx.2.2.2.1.2.2.2.2.2.2.2.2.2.2.2.2.2.2.2 s hs).1.2
  rcases hst with ⟨e1, _⟩ | ⟨e1, _⟩ | ⟨e1, _⟩ | ⟨e1, _⟩ | ⟨e1, _⟩ | ⟨e1, _⟩ | ⟨e1, _⟩ | ⟨e1, _⟩ | ⟨e1, _⟩
  · exact zPlain1 g hx hk hs hq (by rcases e1 with e | e; exact Or.inl e.1; exact Or.inr (Or.inr (Or.inr e.1)))
  · exact zPlain1 g hx hk hs hq (Or.inr (Or.inl e1))
  · exact zPlain2 g hx hk hs hq (by rcases e1 with e | e | e; exact Or.inl e.1; exact Or.inr (Or.inl e.1); exact Or.inr (Or.inr e.1))
  · exact zPickC g hx hk hs hq e1
  · exact zPlain1 g hx hk hs hq (Or.inr (Or.inr (Or.inl e1)))
  · exact absurd (Or.inl e1) hkd
  · exact absurd (by rcases e1 with e | e | e <;> rw [e.1] <;> decide) hkd
  · exact absurd (by rw [e1]; decide) hkd
  · exact absurd (by rw [e1]; decide) hkd
