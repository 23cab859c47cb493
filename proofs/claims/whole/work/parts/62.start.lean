def zs0C : zS := fun k => if k = 0 then (fun j => if j = 7 then 4 else if j = 8 then 2000 else 0) else if k = 7 then (fun j => if j = 16 then -1 else 0) else fun _ => 0
def zs0M : zS := fun k => if k = 0 then (fun j => if j = 73 then 4 else if j = 74 then 2000 else if j = 75 then 4 else if j = 76 then 2000 else 0) else fun _ => 0
def zfr (adr : Nat → Nat) (f : Nat → Int32) : Nat → List (Option Nat) → List Value
  | _, [] => []
  | j, r :: l => zval adr f j r :: zfr adr f (j + 1) l
def zcr (adr : Nat → Nat) (ca : Nat → ClassId) (t : zS) (k : Nat) (x : zCe) : Nat × va_E := match x with
  | .inl q => (adr k, .inl (ca q.1, q.2, .inl (t k)))
  | .inr q => (adr k, .inr (q.1, zfr adr (t k) 0 q.2))
def zwx (adr : Nat → Nat) (ca : Nat → ClassId) (t : zS) : Nat → zSh → va_W
  | _, [] => []
  | k, x :: l => zcr adr ca t k x :: zwx adr ca t (k + 1) l
theorem zfr_eq {adr : Nat → Nat} {f : Nat → Int32} : ∀ (l : List (Option Nat)) (j : Nat), l.mapIdx (fun i => zval adr f (i + j)) = zfr adr f j l := by
  intro l
  induction l with
  | nil => intro j; rfl
  | cons r l ih =>
    intro j
    rw [List.mapIdx_cons, zfr, Nat.zero_add]
    congr 1
    rw [← ih (j + 1)]
    congr 1
    funext i
    rw [show i + 1 + j = i + (j + 1) by omega]
theorem zcr_eq {adr : Nat → Nat} {ca : Nat → ClassId} {t : zS} {k : Nat} {x : zCe} : zcell adr ca t k x = zcr adr ca t k x := by
  cases x with
  | inl q => rfl
  | inr q =>
    simp only [zcell, zcr]
    have := zfr_eq (adr := adr) (f := t k) q.2 0
    simp only [Nat.add_zero] at this
    rw [← this]
theorem zwx_eq {adr : Nat → Nat} {ca : Nat → ClassId} {t : zS} : ∀ (l : zSh) (j : Nat), l.mapIdx (fun i => zcell adr ca t (i + j)) = zwx adr ca t j l := by
  intro l
  induction l with
  | nil => intro j; rfl
  | cons r l ih =>
    intro j
    rw [List.mapIdx_cons, zwx, Nat.zero_add, zcr_eq]
    congr 1
    rw [← ih (j + 1)]
    congr 1
    funext i
    rw [show i + 1 + j = i + (j + 1) by omega]
theorem zw_zwx {adr : Nat → Nat} {ca : Nat → ClassId} {t : zS} {sh : zSh} : zw adr ca sh t = zwx adr ca t 0 sh := by
  have := zwx_eq (adr := adr) (ca := ca) (t := t) sh 0
  simp only [Nat.add_zero] at this
  exact this
theorem zvP_eq {D : va_G} {ws ws' : va_W} {H : Heap} (h : ws = ws') (hP : va_P D zcl ws' H) : va_P D zcl ws H := by subst h; exact hP
theorem zvD_eq {A : Nat → Prop} {ws ws' : va_W} (h : ws = ws') (hD : va_D A ws') : va_D A ws := by subst h; exact hD
theorem zw_inj {adr : Nat → Nat} {ca : Nat → ClassId} {sh : zSh} {t : zS} {A : Nat → Prop} (h : va_D A (zw adr ca sh t)) : zinj adr sh ∧ ∀ q, zA adr sh q → A q := by
  constructor
  · intro i j hi hj he
    have h1 := zw_at (adr := adr) (ca := ca) (t := t) (List.getElem?_eq_getElem hi)
    have h2 := zw_at (adr := adr) (ca := ca) (t := t) (List.getElem?_eq_getElem hj)
    exact h.1 i j _ _ h1 h2 (by rw [zcell_adr, zcell_adr]; exact he)
  · intro q hq
    obtain ⟨k, hk, rfl⟩ := hq
    have h1 := zw_at (adr := adr) (ca := ca) (t := t) (List.getElem?_eq_getElem hk)
    have h2 := h.2 k _ h1
    rw [zcell_adr] at h2
    exact h2
theorem va_P_left {D : va_G} {a b : va_W} {H : Heap} (h : va_P D zcl (a ++ b) H) : va_P D zcl a H := by
  intro k q hq
  refine h k q ?_
  rw [List.getElem?_append_left (List.getElem?_eq_some_iff.mp hq).1]
  exact hq
theorem va_P_right {D : va_G} {a b : va_W} {H : Heap} (h : va_P D zcl (a ++ b) H) : va_P D zcl b H := by
  intro k q hq
  refine h (a.length + k) q ?_
  rw [List.getElem?_append_right (by omega), show a.length + k - a.length = k by omega]
  exact hq
set_option maxRecDepth 20000 in
theorem in_RX0 : Cond.instantiable RX0 10 ∈ zGT := (zGT_in zch2 169 rfl rfl)
set_option maxRecDepth 20000 in
theorem in_RX1 : Cond.instantiable RX1 7 ∈ zGT := (zGT_in zch2 132 rfl rfl)
set_option maxRecDepth 20000 in
theorem in_RX2 : Cond.instantiable RX2 16 ∈ zGT := (zGT_in zch1 44 rfl rfl)
set_option maxRecDepth 20000 in
theorem in_RX3 : Cond.instantiable RX3 9 ∈ zGT := (zGT_in zch1 103 rfl rfl)
set_option maxRecDepth 20000 in
theorem in_RX4 : Cond.instantiable RX4 17 ∈ zGT := (zGT_in zch2 163 rfl rfl)
set_option maxRecDepth 20000 in
theorem in_RX5 : Cond.instantiable RX5 1 ∈ zGT := (zGT_in zch1 30 rfl rfl)
set_option maxRecDepth 20000 in
theorem in_RX6 : Cond.instantiable RX6 11 ∈ zGT := (zGT_in zch1 236 rfl rfl)
set_option maxRecDepth 20000 in
theorem in_RX7 : Cond.instantiable RX7 15 ∈ zGT := (zGT_in zch2 47 rfl rfl)
set_option maxRecDepth 20000 in
theorem in_RX8 : Cond.instantiable RX8 18 ∈ zGT := (zGT_in zch2 210 rfl rfl)
set_option maxRecDepth 20000 in
theorem in_RX9 : Cond.instantiable RX9 17 ∈ zGT := (zGT_in zch1 148 rfl rfl)
set_option maxRecDepth 20000 in
theorem in_RX10 : Cond.instantiable RX10 7 ∈ zGT := (zGT_in zch2 53 rfl rfl)
set_option maxRecDepth 20000 in
theorem in_RX11 : Cond.instantiable RX11 10 ∈ zGT := (zGT_in zch1 22 rfl rfl)
set_option maxRecDepth 20000 in
theorem in_RX12 : Cond.instantiable RX12 110 ∈ zGT := (zGT_in zch6 187 rfl rfl)
set_option maxRecDepth 20000 in
theorem lcl_7 : Cond.classLink RL 7 RX11 ∈ zGT := (zGT_in zch1 21 rfl rfl)
set_option maxRecDepth 20000 in
theorem lin_7 : Cond.initialized RX11 ∈ zGT := (zGT_in zch1 1 rfl rfl)
set_option maxRecDepth 20000 in
theorem ldf_7 : ∀ j, j < 10 → defaultValue (tyX11 j) = vp_V [.null, .null, .null, .null, .null, .null, .int 0, .int 0, .int 0, .int 0] j := by decide +kernel
set_option maxRecDepth 20000 in
theorem lcl_10 : Cond.classLink RL 10 RX12 ∈ zGT := (zGT_in zch6 186 rfl rfl)
set_option maxRecDepth 20000 in
theorem lin_10 : Cond.initialized RX12 ∈ zGT := (zGT_in zch1 14 rfl rfl)
set_option maxRecDepth 20000 in
theorem ldf_10 : ∀ j, j < 110 → defaultValue (tyX12 j) = vp_V [.null, .int 0, .null, .int 0, .int 0, .int 0, .int 0, .int 0, .int 0, .int 0, .int 0, .int 0, .null, .null, .int 0, .null, .null, .null, .null, .int 0, .null, .null, .int 0, .null, .null, .null, .int 0, .null, .null, .null, .null, .null, .null, .null, .null, .null, .int 0, .null, .null, .int 0, .null, .null, .int 0, .null, .int 0, .null, .null, .null, .null, .null, .null, .null, .int 0, .null, .null, .null, .null, .int 0, .null, .int 0, .int 0, .int 0, .int 0, .null, .null, .int 0, .null, .int 0, .int 0, .null, .int 0, .int 0, .int 0, .int 0, .int 0, .int 0, .int 0, .int 0, .int 0, .int 0, .int 0, .int 0, .null, .int 0, .null, .int 0, .int 0, .null, .int 0, .null, .null, .null, .null, .null, .int 0, .null, .null, .int 0, .int 0, .null, .int 0, .int 0, .null, .null, .null, .int 0, .null, .int 0, .null, .null] j := by decide +kernel
set_option maxRecDepth 20000 in
theorem lml_9 : Cond.methodLink RL 9 yX11_init ∈ zGT := (zGT_in zch1 23 rfl rfl)
set_option maxRecDepth 20000 in
theorem lml_12 : Cond.methodLink RL 12 yX12_init ∈ zGT := (zGT_in zch6 188 rfl rfl)
