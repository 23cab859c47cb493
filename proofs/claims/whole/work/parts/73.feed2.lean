theorem st_push2 {P : zS → zS → Prop} {t u : zS} {m : Int} (h : zR4 P t u ∧ (t 0 6).toInt = m) (h0 : 0 ≤ m) (hm : m < 3000) (x : Int32) (n : Nat) : zR4 P (pbC t (zby x n)) (pbM u (zby x n)) ∧ (pbC t (zby x n) 0 6).toInt = m + 1 := by
  have w1 : (1 : Int32).toInt = 1 := by decide
  refine ⟨st_push h.1 (by omega) (zby_rng x n), ?_⟩
  rw [pbC_len, pl_add (by omega) (by omega), w1]
  omega
def pbC4 (t : zS) (x : Int32) : zS := pbC (pbC (pbC (pbC t (zby x 24)) (zby x 16)) (zby x 8)) (zby x 0)
def pbM4 (t : zS) (x : Int32) : zS := pbM (pbM (pbM (pbM t (zby x 24)) (zby x 16)) (zby x 8)) (zby x 0)
theorem st_push4 {P : zS → zS → Prop} {t u : zS} {m : Int} (h : zR4 P t u ∧ (t 0 6).toInt = m) (h0 : 0 ≤ m) (hm : m ≤ 2996) (x : Int32) : zR4 P (pbC4 t x) (pbM4 u x) ∧ (pbC4 t x 0 6).toInt = m + 4 := by
  have h1 := st_push2 h h0 (by omega) x 24
  have h2 := st_push2 h1 (by omega) (by omega) x 16
  have h3 := st_push2 h2 (by omega) (by omega) x 8
  have h4 := st_push2 h3 (by omega) (by omega) x 0
  exact ⟨h4.1, by have := h4.2; unfold pbC4; omega⟩
theorem st_feed {P : zS → zS → Prop} {t u : zS} (h : zR4 P t u) (a b c d e : Int32) : zStp P (mX11_feed a b c d e t) (mX12_feed a b c d e u) := by
  have hT := h.1
  have g0 := pl_le.mp hT.2.1
  have g3 := pl_le.mp hT.2.2.1
  have z0 : (0 : Int32).toInt = 0 := by decide
  have z3 : (3000 : Int32).toInt = 3000 := by decide
  have w20 : (20 : Int32).toInt = 20 := by decide
  have s1 : (t 0 6 + 20).toInt = (t 0 6).toInt + 20 := by rw [pl_add (by omega) (by omega), w20]
  unfold mX11_feed mX12_feed
  rw [← hT.1]
  by_cases q : t 0 6 + 20 ≤ 3000
  · have q' := pl_le.mp q
    rw [if_pos q, if_pos q]
    obtain ⟨m, hm⟩ : ∃ m : Int, m = (t 0 6).toInt := ⟨_, rfl⟩
    have h1 := st_push4 (m := m) ⟨h, hm.symm⟩ (by omega) (by omega) a
    have h2 := st_push4 h1 (by omega) (by omega) b
    have h3 := st_push4 h2 (by omega) (by omega) c
    have h4 := st_push4 h3 (by omega) (by omega) d
    have h5 := st_push4 h4 (by omega) (by omega) e
    have a1 : mX11_append a t = some (0, pbC4 t a) := pl_app hT.2.1 (by omega)
    have a2 : mX11_append b (pbC4 t a) = some (0, pbC4 (pbC4 t a) b) := pl_app h1.1.1.2.1 (by have := h1.2; omega)
    have a3 : mX11_append c (pbC4 (pbC4 t a) b) = some (0, pbC4 (pbC4 (pbC4 t a) b) c) := pl_app h2.1.1.2.1 (by have := h2.2; omega)
    have a4 : mX11_append d (pbC4 (pbC4 (pbC4 t a) b) c) = some (0, pbC4 (pbC4 (pbC4 (pbC4 t a) b) c) d) := pl_app h3.1.1.2.1 (by have := h3.2; omega)
    have a5 : mX11_append e (pbC4 (pbC4 (pbC4 (pbC4 t a) b) c) d) = some (0, pbC4 (pbC4 (pbC4 (pbC4 (pbC4 t a) b) c) d) e) := pl_app h4.1.1.2.1 (by have := h4.2; omega)
    have r1 : lX12_feed_18 zFU a b c d e 0 u = some ((pbMs a b c d e 20 0 u) 0 1, pbMs a b c d e 20 0 u) := by
      rw [show zFU = 999979 + 20 + 1 from rfl]
      exact pl_fdl 20 0 999979 u rfl (by rw [← hT.1]; exact hT.2.1) (by rw [← hT.1]; omega)
    have r2 : pbMs a b c d e 20 0 u = pbM4 (pbM4 (pbM4 (pbM4 (pbM4 u a) b) c) d) e := rfl
    rw [a1, pl_bd, a2, pl_bd, a3, pl_bd, a4, pl_bd, a5, pl_bd, r1, r2, h5.1.1.1]
    exact ⟨_, _, _, rfl, rfl, h5.1⟩
  · rw [if_neg q, if_neg q]
    exact ⟨_, _, _, rfl, rfl, h⟩
