/-! EQUAL TYPES, abstractly -/
def zCo : Type := (Nat → Int32) × (Nat → Nat) × (Nat → Nat) × (Nat → Int32) × (Nat → Int32 → Option Nat)
def zCo.kd (D : zCo) : Nat → Int32 := D.1
def zCo.bh (D : zCo) : Nat → Nat := D.2.1
def zCo.inn (D : zCo) : Nat → Nat := D.2.2.1
def zCo.ct (D : zCo) : Nat → Int32 := D.2.2.2.1
def zCo.pt (D : zCo) : Nat → Int32 → Option Nat := D.2.2.2.2
def zAl (Q : Nat → Nat → Prop) : Option Nat → Option Nat → Prop
  | none, none => True
  | some a, some b => Q a b
  | _, _ => False
/-- of one kind, and what follows stands in Q -/
def zSm (D : zCo) (Q : Nat → Nat → Prop) (x y : Nat) : Prop := D.kd x = D.kd y ∧ (D.kd x = 4 ∨ D.kd x = 5 → Q (D.bh x) (D.bh y)) ∧ (D.kd x = 6 ∨ D.kd x = 7 → Q (D.inn x) (D.inn y) ∧ Q (D.bh x) (D.bh y)) ∧ (D.kd x = 8 ∨ D.kd x = 9 → D.ct x = D.ct y ∧ ∀ l, zAl Q (D.pt x l) (D.pt y l))
def zEqn (D : zCo) : Nat → Nat → Nat → Prop
  | 0, _, _ => True
  | n + 1, x, y => zSm D (zEqn D n) x y
/-- EQUAL -/
def zEq (D : zCo) (x y : Nat) : Prop := ∀ n, zEqn D n x y
def zEqv (Q : Nat → Nat → Prop) : Prop := (∀ x, Q x x) ∧ (∀ x y, Q x y → Q y x) ∧ ∀ x y z, Q x y → Q y z → Q x z
theorem zEqv.rf {Q : Nat → Nat → Prop} (h : zEqv Q) : ∀ x, Q x x := h.1
theorem zEqv.sy {Q : Nat → Nat → Prop} (h : zEqv Q) : ∀ x y, Q x y → Q y x := h.2.1
theorem zEqv.tr {Q : Nat → Nat → Prop} (h : zEqv Q) : ∀ x y z, Q x y → Q y z → Q x z := h.2.2
theorem zAl_mono {Q Q2 : Nat → Nat → Prop} (h : ∀ a b, Q a b → Q2 a b) : ∀ {x y : Option Nat}, zAl Q x y → zAl Q2 x y
  | none, none, _ => trivial
  | some _, some _, w => h _ _ w
  | none, some _, w => w.elim
  | some _, none, w => w.elim
theorem zSm_mono {D : zCo} {Q Q2 : Nat → Nat → Prop} {x y : Nat} (h : zSm D Q x y) (hm : ∀ a b, Q a b → Q2 a b) : zSm D Q2 x y :=
  ⟨h.1, fun w => hm _ _ (h.2.1 w), fun w => ⟨hm _ _ (h.2.2.1 w).1, hm _ _ (h.2.2.1 w).2⟩, fun w => ⟨(h.2.2.2 w).1, fun l => zAl_mono hm ((h.2.2.2 w).2 l)⟩⟩
theorem zEqv_sm {D : zCo} {Q : Nat → Nat → Prop} (h : zEqv Q) : zEqv (zSm D Q) := by
  refine ⟨fun x => ?_, fun x y w => ?_, fun x y z w v => ?_⟩
  · exact ⟨rfl, fun _ => h.rf _, fun _ => ⟨h.rf _, h.rf _⟩, fun _ => ⟨rfl, fun l => by
      cases D.pt x l with
      | none => trivial
      | some a => exact h.rf a⟩⟩
  · obtain ⟨w1, w2, w3, w4⟩ := w
    refine ⟨w1.symm, fun k => h.sy _ _ (w2 (by rw [w1]; exact k)), fun k => ⟨h.sy _ _ (w3 (by rw [w1]; exact k)).1, h.sy _ _ (w3 (by rw [w1]; exact k)).2⟩, fun k => ⟨(w4 (by rw [w1]; exact k)).1.symm, fun l => ?_⟩⟩
    have := (w4 (by rw [w1]; exact k)).2 l
    cases q : D.pt x l with
    | none =>
      cases q2 : D.pt y l with
      | none => trivial
      | some b => rw [q, q2] at this; exact this.elim
    | some a =>
      cases q2 : D.pt y l with
      | none => rw [q, q2] at this; exact this.elim
      | some b => rw [q, q2] at this; exact h.sy _ _ this
  · obtain ⟨w1, w2, w3, w4⟩ := w
    obtain ⟨v1, v2, v3, v4⟩ := v
    refine ⟨w1.trans v1, fun k => h.tr _ _ _ (w2 k) (v2 (by rw [← w1]; exact k)), fun k => ⟨h.tr _ _ _ (w3 k).1 (v3 (by rw [← w1]; exact k)).1, h.tr _ _ _ (w3 k).2 (v3 (by rw [← w1]; exact k)).2⟩, fun k => ⟨(w4 k).1.trans (v4 (by rw [← w1]; exact k)).1, fun l => ?_⟩⟩
    have e1 := (w4 k).2 l
    have e2 := (v4 (by rw [← w1]; exact k)).2 l
    cases q : D.pt x l with
    | none =>
      cases q2 : D.pt y l with
      | none =>
        cases q3 : D.pt z l with
        | none => trivial
        | some c => rw [q2, q3] at e2; exact e2.elim
      | some b => rw [q, q2] at e1; exact e1.elim
    | some a =>
      cases q2 : D.pt y l with
      | none => rw [q, q2] at e1; exact e1.elim
      | some b =>
        cases q3 : D.pt z l with
        | none => rw [q2, q3] at e2; exact e2.elim
        | some c => rw [q, q2] at e1; rw [q2, q3] at e2; exact h.tr _ _ _ e1 e2
theorem zEqv_n {D : zCo} : ∀ n, zEqv (zEqn D n)
  | 0 => ⟨fun _ => trivial, fun _ _ _ => trivial, fun _ _ _ _ _ => trivial⟩
  | n + 1 => zEqv_sm (zEqv_n n)
theorem zEqv_eq {D : zCo} : zEqv (zEq D) := ⟨fun x n => (zEqv_n n).rf x, fun x y w n => (zEqv_n n).sy x y (w n), fun x y z w v n => (zEqv_n n).tr x y z (w n) (v n)⟩
theorem zEq_sm {D : zCo} {x y : Nat} (h : zEq D x y) : zSm D (zEq D) x y := by
  refine ⟨(h 1).1, fun k n => (h (n + 1)).2.1 k, fun k => ⟨fun n => ((h (n + 1)).2.2.1 k).1, fun n => ((h (n + 1)).2.2.1 k).2⟩, fun k => ⟨((h 1).2.2.2 k).1, fun l => ?_⟩⟩
  have e : ∀ n, zAl (zEqn D n) (D.pt x l) (D.pt y l) := fun n => ((h (n + 1)).2.2.2 k).2 l
  cases q : D.pt x l with
  | none =>
    cases q2 : D.pt y l with
    | none => trivial
    | some b => have := e 0; rw [q, q2] at this; exact this.elim
  | some a =>
    cases q2 : D.pt y l with
    | none => have := e 0; rw [q, q2] at this; exact this.elim
    | some b => intro n; have := e n; rw [q, q2] at this; exact this
theorem zEq_of {D : zCo} {x y : Nat} (h : zSm D (zEq D) x y) : zEq D x y
  | 0 => trivial
  | n + 1 => zSm_mono h (fun _ _ w => w n)
/-! joining -/
def zUF (D : zCo) (x0 y0 : Nat) (R : Nat → Nat) (L W : List (Nat × Nat)) : Prop := (∀ Q, zEqv Q → (∀ e, e ∈ L → Q e.1 e.2) → ∀ x, Q x (R x)) ∧ (∀ e, e ∈ L → zSm D (fun a b => R a = R b ∨ (a, b) ∈ W) e.1 e.2) ∧ (R x0 = R y0 ∨ (x0, y0) ∈ W)
theorem zUF_all {D : zCo} {x0 y0 : Nat} {R : Nat → Nat} {L : List (Nat × Nat)} (h : zUF D x0 y0 R L []) : ∀ x y, R x = R y → zEq D x y := by
  intro x y he n
  induction n generalizing x y with
  | zero => trivial
  | succ n ih =>
    have hq := h.1 (zEqn D (n + 1)) (zEqv_n _) (fun e he => zSm_mono (h.2.1 e he) (fun a b w => by
      rcases w with w | w
      · exact ih a b w
      · cases w))
    have a := hq x
    have b := hq y
    rw [he] at a
    exact (zEqv_n _).tr _ _ _ a ((zEqv_n _).sy _ _ b)
theorem zUF_end {D : zCo} {x0 y0 : Nat} {R : Nat → Nat} {L : List (Nat × Nat)} (h : zUF D x0 y0 R L []) : zEq D x0 y0 := by
  rcases h.2.2 with e | e
  · exact zUF_all h x0 y0 e
  · cases e
theorem zUF_drop {D : zCo} {x0 y0 p q : Nat} {R : Nat → Nat} {L W : List (Nat × Nat)} (h : zUF D x0 y0 R L ((p, q) :: W)) (e : R p = R q) : zUF D x0 y0 R L W := by
  have m : ∀ a b, (R a = R b ∨ (a, b) ∈ (p, q) :: W) → (R a = R b ∨ (a, b) ∈ W) := fun a b w => by
    rcases w with w | w
    · exact Or.inl w
    · rcases List.mem_cons.mp w with w | w
      · rw [Prod.mk.injEq] at w
        exact Or.inl (by rw [w.1, w.2]; exact e)
      · exact Or.inr w
  exact ⟨h.1, fun x hx => zSm_mono (h.2.1 x hx) m, m _ _ h.2.2⟩
def zRj (R : Nat → Nat) (a b : Nat) : Nat → Nat := fun z => if R z = a then b else R z
theorem zUF_join {D : zCo} {x0 y0 p q x y a b : Nat} {R : Nat → Nat} {L W W2 : List (Nat × Nat)} (h : zUF D x0 y0 R L ((p, q) :: W)) (ha : R p = a) (hb : R q = b) (hab : ¬ a = b) (hx : R x = a) (hy : R y = b) (hs : zSm D (fun u v => (u, v) ∈ W2) x y) (hW : ∀ e, e ∈ W → e ∈ W2) : zUF D x0 y0 (zRj R a b) ((x, y) :: L) W2 := by
  have m : ∀ u v, (R u = R v ∨ (u, v) ∈ (p, q) :: W) → (zRj R a b u = zRj R a b v ∨ (u, v) ∈ W2) := fun u v w => by
    unfold zRj
    rcases w with w | w
    · exact Or.inl (by rw [w])
    · rcases List.mem_cons.mp w with w | w
      · rw [Prod.mk.injEq] at w
        refine Or.inl ?_
        rw [w.1, w.2, ha, hb, if_pos rfl, if_neg (fun e => hab e.symm)]
      · exact Or.inr (hW _ w)
  refine ⟨fun Q hQ hL z => ?_, fun e he => ?_, m _ _ h.2.2⟩
  · have hq := h.1 Q hQ (fun e he => hL e (List.mem_cons_of_mem _ he))
    have hxy := hL (x, y) List.mem_cons_self
    have z1 := hq z
    have x1 := hq x
    have y1 := hq y
    rw [hx] at x1
    rw [hy] at y1
    unfold zRj
    by_cases e : R z = a
    · rw [if_pos e]
      rw [e] at z1
      exact hQ.tr _ _ _ z1 (hQ.tr _ _ _ (hQ.sy _ _ x1) (hQ.tr _ _ _ hxy y1))
    · rw [if_neg e]; exact z1
  · rcases List.mem_cons.mp he with w | w
    · subst w
      exact zSm_mono hs (fun _ _ w => Or.inr w)
    · exact zSm_mono (h.2.1 e w) m
/-- if the first two are EQUAL, all that wait and all that were joined are -/
def zUK (D : zCo) (x0 y0 : Nat) (L W : List (Nat × Nat)) : Prop := zEq D x0 y0 → (∀ e, e ∈ L → zEq D e.1 e.2) ∧ ∀ e, e ∈ W → zEq D e.1 e.2
theorem zUK_eq {D : zCo} {x0 y0 p q x y : Nat} {R : Nat → Nat} {L W : List (Nat × Nat)} (h : zUF D x0 y0 R L ((p, q) :: W)) (hC : zUK D x0 y0 L ((p, q) :: W)) (hx : R x = R p) (hy : R y = R q) (h0 : zEq D x0 y0) : zEq D x y := by
  obtain ⟨c1, c2⟩ := hC h0
  have hq := h.1 (zEq D) zEqv_eq c1
  have e1 := hq x
  have e2 := hq p
  have e3 := hq q
  have e4 := hq y
  rw [hx] at e1
  rw [hy] at e4
  exact zEqv_eq.tr _ _ _ (zEqv_eq.tr _ _ _ e1 (zEqv_eq.sy _ _ e2)) (zEqv_eq.tr _ _ _ (c2 (p, q) List.mem_cons_self) (zEqv_eq.tr _ _ _ e3 (zEqv_eq.sy _ _ e4)))
theorem zUK_join {D : zCo} {x0 y0 p q x y : Nat} {R : Nat → Nat} {L W W2 : List (Nat × Nat)} (h : zUF D x0 y0 R L ((p, q) :: W)) (hC : zUK D x0 y0 L ((p, q) :: W)) (hx : R x = R p) (hy : R y = R q) (hW : ∀ e, e ∈ W2 → e ∈ W ∨ (zSm D (zEq D) x y → zEq D e.1 e.2)) : zUK D x0 y0 ((x, y) :: L) W2 := by
  intro h0
  have exy := zUK_eq h hC hx hy h0
  obtain ⟨c1, c2⟩ := hC h0
  refine ⟨fun e he => ?_, fun e he => ?_⟩
  · rcases List.mem_cons.mp he with w | w
    · subst w; exact exy
    · exact c1 e w
  · rcases hW e he with w | w
    · exact c2 e (List.mem_cons_of_mem _ w)
    · exact w (zEq_sm exy)
theorem zUK_drop {D : zCo} {x0 y0 : Nat} {e : Nat × Nat} {L W : List (Nat × Nat)} (hC : zUK D x0 y0 L (e :: W)) : zUK D x0 y0 L W := fun h0 => ⟨(hC h0).1, fun e he => (hC h0).2 e (List.mem_cons_of_mem _ he)⟩
/-- how many pairs a state lets wait -/
def zDc (D : zCo) (x : Nat) : Nat := if D.kd x = 4 ∨ D.kd x = 5 then 1 else if D.kd x = 6 ∨ D.kd x = 7 then 2 else if D.kd x = 8 ∨ D.kd x = 9 then (D.ct x).toNatClampNeg else 0
theorem zDc_sm {D : zCo} {Q : Nat → Nat → Prop} {x y : Nat} (h : zSm D Q x y) : zDc D x = zDc D y := by
  unfold zDc
  rw [← h.1]
  by_cases k8 : D.kd x = 8 ∨ D.kd x = 9
  · rw [(h.2.2.2 k8).1]
  · rw [if_neg k8, if_neg k8]
theorem zDc_R {D : zCo} {x0 y0 : Nat} {R : Nat → Nat} {L W : List (Nat × Nat)} (h : zUF D x0 y0 R L W) (x : Nat) : zDc D x = zDc D (R x) :=
  h.1 (fun a b => zDc D a = zDc D b) ⟨fun _ => rfl, fun _ _ w => w.symm, fun _ _ _ w v => w.trans v⟩ (fun e he => zDc_sm (h.2.1 e he)) x
/-- what all roots let wait -/
def zPo (D : zCo) (R : Nat → Nat) : Nat → Nat
  | 0 => 0
  | k + 1 => zPo D R k + (if R k = k then zDc D k else 0)
theorem zPo_join {D : zCo} {R : Nat → Nat} {a b : Nat} (ha : R a = a) (hb : R b = b) (hab : ¬ a = b) : ∀ K, zPo D (zRj R a b) K + (if a < K then zDc D a else 0) = zPo D R K := by
  intro K
  induction K with
  | zero => rfl
  | succ k ih =>
    unfold zPo
    have e : (if zRj R a b k = k then zDc D k else 0) = (if k = a then 0 else (if R k = k then zDc D k else 0)) := by
      unfold zRj
      by_cases c : k = a
      · subst c
        rw [if_pos rfl, if_pos ha, if_neg (fun w => hab w.symm)]
      · rw [if_neg c]
        by_cases c2 : R k = a
        · rw [if_pos c2]
          by_cases c3 : b = k
          · rw [if_pos c3]
            subst c3
            exact absurd (hb.symm.trans c2) (fun w => hab w.symm)
          · rw [if_neg c3, if_neg (fun w => c (w.symm.trans c2))]
        · rw [if_neg c2]
    rw [e]
    by_cases c : k = a
    · subst c
      rw [if_pos rfl, if_pos (Nat.lt_succ_self k), if_pos ha]
      rw [if_neg (Nat.lt_irrefl k)] at ih
      omega
    · rw [if_neg c]
      by_cases c2 : a < k
      · rw [if_pos c2] at ih
        rw [if_pos (show a < k + 1 by omega)]
        omega
      · rw [if_neg c2] at ih
        rw [if_neg (show ¬ a < k + 1 by omega)]
        omega
/-- roots, counted -/
def zRc2 (R : Nat → Nat) : Nat → Nat
  | 0 => 0
  | k + 1 => zRc2 R k + (if R k = k then 1 else 0)
theorem zRc2_join {R : Nat → Nat} {a b : Nat} (ha : R a = a) (hb : R b = b) (hab : ¬ a = b) : ∀ K, zRc2 (zRj R a b) K + (if a < K then 1 else 0) = zRc2 R K := by
  intro K
  induction K with
  | zero => rfl
  | succ k ih =>
    unfold zRc2
    have e : (if zRj R a b k = k then 1 else 0) = (if k = a then 0 else (if R k = k then 1 else 0)) := by
      unfold zRj
      by_cases c : k = a
      · subst c
        rw [if_pos rfl, if_pos ha, if_neg (fun w => hab w.symm)]
      · rw [if_neg c]
        by_cases c2 : R k = a
        · rw [if_pos c2]
          by_cases c3 : b = k
          · rw [if_pos c3]
            subst c3
            exact absurd (hb.symm.trans c2) (fun w => hab w.symm)
          · rw [if_neg c3, if_neg (fun w => c (w.symm.trans c2))]
        · rw [if_neg c2]
    rw [e]
    by_cases c : k = a
    · subst c
      rw [if_pos rfl, if_pos (Nat.lt_succ_self k), if_pos ha]
      rw [if_neg (Nat.lt_irrefl k)] at ih
      omega
    · rw [if_neg c]
      by_cases c2 : a < k
      · rw [if_pos c2] at ih
        rw [if_pos (show a < k + 1 by omega)]
        omega
      · rw [if_neg c2] at ih
        rw [if_neg (show ¬ a < k + 1 by omega)]
        omega
/-- parents: R is where one comes to -/
def zFo (K : Nat) (p R r : Nat → Nat) : Prop := ∀ x, x < K → p x < K ∧ R x < K ∧ R (p x) = R x ∧ R (R x) = R x ∧ (p x = x ↔ R x = x) ∧ (¬ p x = x → r x < r (p x)) ∧ r x + zRc2 R K ≤ K
theorem zFo_id (K : Nat) : zFo K (fun x => x) (fun x => x) (fun _ => 0) := by
  intro x hx
  have h : ∀ k, zRc2 (fun x => x) k = k := by
    intro k
    induction k with
    | zero => rfl
    | succ k ih => unfold zRc2; rw [ih, if_pos rfl]
  exact ⟨hx, hx, rfl, rfl, Iff.rfl, fun w => absurd rfl w, by rw [h]; exact Nat.le_of_eq (Nat.zero_add K)⟩
/-- half the way -/
theorem zFo_half {K x : Nat} {p R r : Nat → Nat} (h : zFo K p R r) (hx : x < K) : zFo K (zup p x (p (p x))) R r := by
  intro y hy
  obtain ⟨a1, a2, a3, a4, a5, a6, a7⟩ := h y hy
  by_cases e : y = x
  · subst e
    obtain ⟨b1, b2, b3, b4, b5, b6, b7⟩ := h (p y) a1
    have ey : zup p y (p (p y)) y = p (p y) := by unfold zup; rw [if_pos rfl]
    rw [ey]
    refine ⟨b1, a2, by rw [b3, a3], a4, ⟨fun w => ?_, fun w => ?_⟩, fun w => ?_, a7⟩
    · by_cases c : p y = y
      · exact a5.mp c
      · have s1 := a6 c
        by_cases c2 : p (p y) = p y
        · exact absurd (c2.symm.trans w) c
        · have s2 := b6 c2
          rw [w] at s2
          omega
    · rw [a5.mpr w]; exact a5.mpr w
    · by_cases c : p y = y
      · exact absurd (by rw [c]; exact c) w
      · have s1 := a6 c
        by_cases c2 : p (p y) = p y
        · rw [c2]; exact s1
        · have s2 := b6 c2
          omega
  · have ey : zup p x (p (p x)) y = p y := by unfold zup; rw [if_neg e]
    rw [ey]
    exact ⟨a1, a2, a3, a4, a5, a6, a7⟩
theorem zFo_join {K a b : Nat} {p R r : Nat → Nat} (h : zFo K p R r) (hca : a < K) (hcb : b < K) (ha : R a = a) (hb : R b = b) (hab : ¬ a = b) : zFo K (zup p a b) (zRj R a b) (zup r b (K + 1 - zRc2 R K)) := by
  have hj := zRc2_join ha hb hab K
  rw [if_pos hca] at hj
  have hpb : p b = b := (h b hcb).2.2.2.2.1.mpr hb
  have hpa : p a = a := (h a hca).2.2.2.2.1.mpr ha
  have rb : zRj R a b b = b := by unfold zRj; rw [if_neg (fun w => hab (w.symm.trans hb)), hb]
  have ra : zRj R a b a = b := by unfold zRj; rw [if_pos ha]
  intro y hy
  obtain ⟨a1, a2, a3, a4, a5, a6, a7⟩ := h y hy
  have a7a := (h a hca).2.2.2.2.2.2
  by_cases e : y = a
  · subst e
    have ey : zup p y b y = b := by unfold zup; rw [if_pos rfl]
    rw [ey, ra]
    refine ⟨hcb, hcb, rb, rb, ⟨fun w => w, fun w => w⟩, fun _ => ?_, ?_⟩
    · unfold zup
      rw [if_neg hab, if_pos rfl]; omega
    · unfold zup
      rw [if_neg hab]; omega
  · have ey : zup p a b y = p y := by unfold zup; rw [if_neg e]
    rw [ey]
    have eR : zRj R a b y = if R y = a then b else R y := rfl
    have eRp : zRj R a b (p y) = zRj R a b y := by unfold zRj; rw [a3]
    refine ⟨a1, ?_, eRp, ?_, ?_, fun w => ?_, ?_⟩
    · rw [eR]
      by_cases c : R y = a
      · rw [if_pos c]; exact hcb
      · rw [if_neg c]; exact a2
    · rw [eR]
      by_cases c : R y = a
      · rw [if_pos c]; exact rb
      · rw [if_neg c]
        unfold zRj
        rw [a4, if_neg c]
    · rw [eR]
      by_cases c : R y = a
      · rw [if_pos c]
        refine ⟨fun w => absurd (c.symm.trans (a5.mp w)) (fun w => e w.symm), fun w => ?_⟩
        subst w
        exact absurd (hb.symm.trans c) (fun w => hab w.symm)
      · rw [if_neg c]; exact a5
    · have s := a6 w
      have a7p := (h (p y) a1).2.2.2.2.2.2
      unfold zup
      by_cases c : y = b
      · subst c; exact absurd hpb w
      · rw [if_neg c]
        by_cases c2 : p y = b
        · rw [if_pos c2]; omega
        · rw [if_neg c2]; exact s
    · unfold zup
      by_cases c : y = b
      · rw [if_pos c]; omega
      · rw [if_neg c]; omega
