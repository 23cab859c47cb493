/-! the class: a process gets its slots -/
theorem zBecC {m p mn : Nat} {x z : Int32} {R n : Nat → Nat} {num H t : zS} (h : zMC (zIn m R) n num H t) (hl : zLkC m R t) (hR : ∀ i, i < m → R i < 2501) (hi : ∀ i j, i < m → j < m → R i = R j → i = j) (hm : m ≤ 2500) (hp : p < 2501) (hs : zSs (fun i => if R i = p then 0 else n (R i)) m + mn ≤ 12000) :
    ∃ t2, mX8_become (Int32.ofNat p) x (Int32.ofNat mn) z t = some (0, t2) ∧ zMC (fun r => zIn m R r ∨ r = p) (fun r => if r = p then mn else n r) (fun r k => if r = p then 0 else num r k) (fun r k => if r = p then -1 else H r k) t2 ∧ (∀ r, ¬ (r = 60 ∨ r = 127 ∨ r = 129 ∨ r = 133 ∨ r = 135 ∨ r = 143 ∨ r = 145) → t2 r = t r) ∧ (∀ j, ¬ (j = 14 ∨ j = 15) → t2 60 j = t 60 j) ∧ t2 127 = (zu t 127 p x) 127 ∧ t2 129 = (zu t 129 p z) 129 := by
  obtain ⟨n', en⟩ : ∃ n' : Nat → Nat, n' = fun r => if r = p then 0 else n r := ⟨_, rfl⟩
  obtain ⟨t1, e1⟩ : ∃ t1, t1 = zu t 135 p 0 := ⟨_, rfl⟩
  have f1 : ∀ r, ¬ r = 135 → t1 r = t r := fun r hr => by rw [e1, zu_row hr]
  -- nothing in p's slots
  have h1 : zMC (zIn m R) n' num H t1 := by
    obtain ⟨hf, us, B, a1, a2, a3, a4, a5, a6⟩ := h
    refine ⟨hf, us, B, a1, by rw [f1 60 (by decide)]; exact a2, by rw [f1 60 (by decide)]; exact a3, a4, fun r hr => ?_, fun r r' hr hr' hne => ?_⟩
    · obtain ⟨b1, b2, b3, b4, b5⟩ := a5 r hr
      rw [f1 133 (by decide), f1 143 (by decide), f1 145 (by decide)]
      by_cases e : r = p
      · subst e
        rw [en]
        show _ ∧ _ = Int32.ofNat (if r = r then 0 else n r) ∧ _ ∧ _ + (if r = r then 0 else n r) ≤ _ ∧ ∀ k, k < (if r = r then 0 else n r) → _
        rw [if_pos rfl]
        exact ⟨b1, by rw [e1, zu_same]; rfl, b3, by omega, fun k hk => absurd hk (Nat.not_lt_zero _)⟩
      · rw [en]
        show _ ∧ _ = Int32.ofNat (if r = p then 0 else n r) ∧ _ ∧ _ + (if r = p then 0 else n r) ≤ _ ∧ ∀ k, k < (if r = p then 0 else n r) → _
        rw [if_neg e]
        exact ⟨b1, by rw [e1, zu_ne2 e]; exact b2, b3, b4, b5⟩
    · have := a6 r r' hr hr' hne
      have l1 : n' r ≤ n r := by rw [en]; show (if r = p then 0 else n r) ≤ n r; split <;> omega
      have l2 : n' r' ≤ n r' := by rw [en]; show (if r' = p then 0 else n r') ≤ n r'; split <;> omega
      omega
  have l1 : zLkC m R t1 := by unfold zLkC at *; rw [f1 60 (by decide), f1 137 (by decide), f1 139 (by decide)]; exact hl
  have s1 : zSs (fun i => n' (R i)) m + mn ≤ 12000 := by rw [en]; exact hs
  -- there is room
  have room : ∃ t2, (mX8_become (Int32.ofNat p) x (Int32.ofNat mn) z t = bX8_become_25 (Int32.ofNat p) x (Int32.ofNat mn) z t2) ∧ zMC (zIn m R) n' num H t2 ∧ (∃ us, t2 60 15 = Int32.ofNat us ∧ us + mn ≤ 12000) ∧ (∀ r, ¬ (r = 60 ∨ r = 133 ∨ r = 143 ∨ r = 145) → t2 r = t1 r) ∧ ∀ j, ¬ (j = 14 ∨ j = 15) → t2 60 j = t1 60 j := by
    obtain ⟨us, u1, u2⟩ : ∃ us, t1 60 15 = Int32.ofNat us ∧ us ≤ 12000 := by
      obtain ⟨hf, us, B, a1, a2, a3, a4, _⟩ := h1
      exact ⟨us, a3, a4⟩
    unfold mX8_become
    rw [zn_set hp (by decide), pl_bd, ← e1, u1, zn_add]
    by_cases c : us + mn ≤ 12000
    · refine ⟨t1, ?_, h1, ⟨us, u1, c⟩, fun _ _ => rfl, fun _ _ => rfl⟩
      rw [if_pos (show Int32.ofNat (us + mn) ≤ 12000 from (zn_le (b := 12000) (by omega) (by decide)).mpr c)]
    · obtain ⟨t2, z1, z2, z3, z4, z5⟩ := zMoveC h1 l1 hR hi hm (by omega)
      refine ⟨t2, ?_, z2, ⟨_, z3, s1⟩, z4, z5⟩
      rw [if_neg (show ¬ Int32.ofNat (us + mn) ≤ 12000 from fun w => c ((zn_le (b := 12000) (by omega) (by decide)).mp w)), z1, pl_bd]
  obtain ⟨t2, r1, r2, ⟨us, r3, r4⟩, r5, r6⟩ := room
  obtain ⟨hf, us', B, a1, a2, a3, a4, a5, a6⟩ := r2
  have eu : us' = us := by
    rw [r3] at a3
    exact ((zn_inj (by omega) (by omega)).mp a3).symm
  subst eu
  obtain ⟨b, ebb⟩ : ∃ b, b = hf + us' := ⟨_, rfl⟩
  obtain ⟨ta, ea⟩ : ∃ ta, ta = zu (zu t2 133 p (Int32.ofNat b)) 135 p (Int32.ofNat mn) := ⟨_, rfl⟩
  obtain ⟨tb, eb⟩ : ∃ tb, tb = zfl (zfl ta 143 b (b + mn) 0) 145 b (b + mn) (-1) := ⟨_, rfl⟩
  obtain ⟨tc, ec⟩ : ∃ tc, tc = zu (zu (zu tb 60 15 (Int32.ofNat (us' + mn))) 127 p x) 129 p z := ⟨_, rfl⟩
  have flr : ∀ (v : zS) (c i j : Nat) (w : Int32) (r : Nat), ¬ r = c → zfl v c i j w r = v r := fun v c i j w r hr => by
    funext q; unfold zfl; rw [if_neg (fun w => hr w.1)]
  have fli : ∀ (v : zS) (c i j : Nat) (w : Int32) (q : Nat), i ≤ q → q < j → zfl v c i j w c q = w := fun v c i j w q h1 h2 => by
    unfold zfl; rw [if_pos ⟨rfl, h1, h2⟩]
  have flo : ∀ (v : zS) (c i j : Nat) (w : Int32) (q : Nat), (q < i ∨ j ≤ q) → zfl v c i j w c q = v c q := fun v c i j w q h1 => by
    unfold zfl; rw [if_neg (by omega)]
  have fa : ∀ r, ¬ (r = 133 ∨ r = 135) → ta r = t2 r := fun r hr => by rw [ea, zu_row (by omega), zu_row (by omega)]
  have fb : ∀ r, ¬ (r = 143 ∨ r = 145) → tb r = ta r := fun r hr => by rw [eb, flr _ _ _ _ _ _ (by omega), flr _ _ _ _ _ _ (by omega)]
  have fc : ∀ r, ¬ (r = 60 ∨ r = 127 ∨ r = 129) → tc r = tb r := fun r hr => by rw [ec, zu_row (by omega), zu_row (by omega), zu_row (by omega)]
  refine ⟨tc, ?_, ⟨hf, us' + mn, fun r => if r = p then b else B r, a1, ?_, ?_, by omega, fun r hr => ?_, fun r r' hr hr' hne => ?_⟩, fun r hr => ?_, fun j hj => ?_, ?_, ?_⟩
  · rw [r1]
    unfold bX8_become_25
    rw [a2, a3, zn_add, ← ebb, zn_set hp (by decide), pl_bd, zn_set hp (by decide), pl_bd, ← ea]
    rw [fa 60 (by decide), a2, a3, zn_add, ← ebb, zn_add, pl_fill (k := 142) (a := b) (b := b + mn) (pl_ofn (by omega)) (pl_ofn (by omega)) (by omega) (by omega) (by decide), pl_bd, flr _ _ _ _ _ _ (show ¬ 60 = 142 + 1 by decide), fa 60 (by decide), a2, a3, zn_add, ← ebb, zn_add, pl_fill (k := 144) (a := b) (b := b + mn) (pl_ofn (by omega)) (pl_ofn (by omega)) (by omega) (by omega) (by decide), pl_bd]
    rw [show zfl (zfl ta (142 + 1) b (b + mn) 0) (144 + 1) b (b + mn) (-1) = tb from eb.symm, pl_pt, fb 60 (by decide), fa 60 (by decide), a3, zn_add, zn_set hp (by decide), pl_bd, zn_set hp (by decide), pl_bd, ← ec]
  · rw [ec, zu_ne1 (by decide), zu_ne1 (by decide), zu_ne2 (by decide), fb 60 (by decide), fa 60 (by decide)]; exact a2
  · rw [ec, zu_ne1 (by decide), zu_ne1 (by decide), zu_same]
  · have e133 : tc 133 = ta 133 := by rw [fc 133 (by decide), fb 133 (by decide)]
    have e135 : tc 135 = ta 135 := by rw [fc 135 (by decide), fb 135 (by decide)]
    have e143 : tc 143 = zfl ta 143 b (b + mn) 0 143 := by rw [fc 143 (by decide), eb, flr _ _ _ _ _ _ (by decide)]
    have e145 : tc 145 = zfl (zfl ta 143 b (b + mn) 0) 145 b (b + mn) (-1) 145 := by rw [fc 145 (by decide), eb]
    by_cases e : r = p
    · subst e
      simp only [↓reduceIte]
      rw [e133, e135, ea, zu_ne1 (by decide), zu_same, zu_same]
      refine ⟨rfl, rfl, by omega, by omega, fun k hk => ?_⟩
      rw [e143, e145, fli _ _ _ _ _ _ (by omega) (by omega), fli _ _ _ _ _ _ (by omega) (by omega)]
      exact ⟨rfl, rfl⟩
    · simp only [if_neg e]
      have hr' : zIn m R r := hr.resolve_right e
      obtain ⟨b1, b2, b3, b4, b5⟩ := a5 r hr'
      have en' : n' r = n r := by rw [en]; show (if r = p then 0 else n r) = n r; rw [if_neg e]
      rw [en'] at b2 b4 b5
      rw [e133, e135, ea, zu_ne1 (by decide), zu_ne2 e, zu_ne2 e, zu_ne1 (by decide)]
      refine ⟨b1, b2, b3, by omega, fun k hk => ?_⟩
      rw [e143, e145, flo _ _ _ _ _ _ (by omega), flo _ _ _ _ _ _ (by omega), flr _ _ _ _ _ _ (by decide), fa 143 (by decide), fa 145 (by decide)]
      exact b5 k hk
  · have key : ∀ r, ¬ r = p → (zIn m R r ∨ r = p) → B r + n r ≤ b := fun r e hr => by
      obtain ⟨_, _, _, b4, _⟩ := a5 r (hr.resolve_right e)
      have en' : n' r = n r := by rw [en]; show (if r = p then 0 else n r) = n r; rw [if_neg e]
      rw [en'] at b4
      omega
    by_cases e : r = p
    · have e' : ¬ r' = p := fun w => hne (e.trans w.symm)
      simp only [if_pos e, if_neg e']
      exact Or.inr (key r' e' hr')
    · by_cases e' : r' = p
      · simp only [if_neg e, if_pos e']
        exact Or.inl (key r e hr)
      · simp only [if_neg e, if_neg e']
        have := a6 r r' (hr.resolve_right e) (hr'.resolve_right e') hne
        have n1 : n' r = n r := by rw [en]; show (if r = p then 0 else n r) = n r; rw [if_neg e]
        have n2 : n' r' = n r' := by rw [en]; show (if r' = p then 0 else n r') = n r'; rw [if_neg e']
        rw [n1, n2] at this
        exact this
  · rw [fc r (by omega), fb r (by omega), fa r (by omega), r5 r (by omega), f1 r (by omega)]
  · rw [ec, zu_ne1 (by decide), zu_ne1 (by decide), zu_ne2 (by omega), fb 60 (by decide), fa 60 (by decide), r6 j hj, f1 60 (by decide)]
  · rw [ec, zu_row (by decide)]
    funext q
    by_cases e : q = p
    · subst e; rw [zu_same, zu_same]
    · rw [zu_ne2 e, zu_ne2 e, zu_ne1 (by decide), fb 127 (by decide), fa 127 (by decide), r5 127 (by decide), f1 127 (by decide)]
  · rw [ec]
    funext q
    by_cases e : q = p
    · subst e; rw [zu_same, zu_same]
    · rw [zu_ne2 e, zu_ne2 e, zu_ne1 (by decide), zu_ne2 e, fb 129 (by decide), fa 129 (by decide), r5 129 (by decide), f1 129 (by decide)]
