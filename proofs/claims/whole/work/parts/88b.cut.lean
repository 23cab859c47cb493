/-! all words of a text, as the class cuts them -/
def zltb (x : Int32) : Bool := decide ((97 ≤ x.toInt ∧ x.toInt ≤ 122) ∨ (65 ≤ x.toInt ∧ x.toInt ≤ 90))
theorem zltb_iff {x : Int32} : zltb x = true ↔ zLt x := by unfold zltb zLt; exact decide_eq_true_iff
theorem zn_mul (a b : Nat) : Int32.ofNat a * Int32.ofNat b = Int32.ofNat (a * b) := (Int32.ofNat_mul a b).symm
theorem zn_add (a b : Nat) : Int32.ofNat a + Int32.ofNat b = Int32.ofNat (a + b) := (Int32.ofNat_add a b).symm
theorem zn_sub {a b : Nat} (h : b ≤ a) (ha : a < 2147483648) : Int32.ofNat a - Int32.ofNat b = Int32.ofNat (a - b) :=
  pl_ext (by rw [pl_sub (by rw [pl_ofn (by omega), pl_ofn (by omega)]; omega) (by rw [pl_ofn (by omega), pl_ofn (by omega)]; omega), pl_ofn (by omega), pl_ofn (by omega), pl_ofn (by omega)]; omega)
theorem zn_inj {a b : Nat} (ha : a < 2147483648) (hb : b < 2147483648) : Int32.ofNat a = Int32.ofNat b ↔ a = b := by
  constructor
  · intro h
    have := congrArg Int32.toInt h
    rw [pl_ofn ha, pl_ofn hb] at this
    omega
  · intro h; rw [h]
theorem zn_le {a b : Nat} (ha : a < 2147483648) (hb : b < 2147483648) : Int32.ofNat a ≤ Int32.ofNat b ↔ a ≤ b := by
  rw [pl_le, pl_ofn ha, pl_ofn hb]; omega
theorem zn_lt {a b : Nat} (ha : a < 2147483648) (hb : b < 2147483648) : Int32.ofNat a < Int32.ofNat b ↔ a < b := by
  rw [pl_lt, pl_ofn ha, pl_ofn hb]; omega
theorem zn_wr {t : zS} {c n k : Nat} {v : Int32} {f : zS → zR} (h : k < n) (hn : n < 2147483648) : zwr t c n (Int32.ofNat k) v f = f (zu t c k v) := by
  rw [pl_wr ⟨(zofn (by omega)).1, by rw [(zofn (by omega)).2]; exact h⟩, (zofn (by omega)).2]
theorem zn_rd {t : zS} {c n k : Nat} {f : Int32 → zR} (h : k < n) (hn : n < 2147483648) : zrd t c n (Int32.ofNat k) f = f (t c k) := by
  rw [pl_rd ⟨(zofn (by omega)).1, by rw [(zofn (by omega)).2]; exact h⟩, (zofn (by omega)).2]
theorem zn_get {c n k : Nat} {t : zS} (h : k < n) (hn : n < 2147483648) : mX5_get c n (Int32.ofNat k) t = some (t (c + 1) k, t) := pl_get hn (pl_ofn (by omega)) h
theorem zn_set {c n k : Nat} {v : Int32} {t : zS} (h : k < n) (hn : n < 2147483648) : mX5_set c n (Int32.ofNat k) v t = some (0, zu t (c + 1) k v) := pl_set hn (pl_ofn (by omega)) h
def zend (g : Nat → Int32) (n p : Nat) : Nat := if zltb (g p) = true then zrun zaln g n (n - p) p else if zdig (g p) = true then zrun zdig g n (n - p) p else if g p = 61 ∧ p + 1 < n ∧ g (p + 1) = 61 then p + 2 else p + 1
theorem zrun_first {f : Int32 → Bool} {g : Nat → Int32} {n p : Nat} (hp : p < n) (h : f (g p) = true) : p < zrun f g n (n - p) p ∧ zrun f g n (n - p) p ≤ n := by
  rw [show n - p = (n - (p + 1)) + 1 by omega]
  unfold zrun
  rw [if_pos ⟨hp, h⟩]
  have := zrun_le (f := f) (g := g) (n := n) (n - (p + 1)) (p + 1) (by omega)
  omega
theorem zrun_end {f : Int32 → Bool} {g : Nat → Int32} {n : Nat} : ∀ (d p : Nat), d + p = n → zrun f g n d p < n → f (g (zrun f g n d p)) = false := by
  intro d
  induction d with
  | zero => intro p h hl; exfalso; have : p < n := hl; omega
  | succ d ih =>
    intro p h
    unfold zrun
    by_cases q : p < n ∧ f (g p) = true
    · rw [if_pos q]; exact ih (p + 1) (by omega)
    · rw [if_neg q]
      intro hl
      cases hq : f (g p) with
      | false => rfl
      | true => exact absurd ⟨hl, hq⟩ q
theorem zaln_of {x : Int32} (h : zltb x = true) : zaln x = true := zaln_iff.mpr (Or.inl (zltb_iff.mp h))
theorem zend_lt {g : Nat → Int32} {n p : Nat} (hp : p < n) : p < zend g n p ∧ zend g n p ≤ n := by
  unfold zend
  by_cases h1 : zltb (g p) = true
  · rw [if_pos h1]; exact zrun_first hp (zaln_of h1)
  · rw [if_neg h1]
    by_cases h2 : zdig (g p) = true
    · rw [if_pos h2]; exact zrun_first hp h2
    · rw [if_neg h2]
      by_cases h3 : g p = 61 ∧ p + 1 < n ∧ g (p + 1) = 61
      · rw [if_pos h3]; omega
      · rw [if_neg h3]; omega
/-- where the j-th word begins (n: there is none any more) -/
def zpos (g : Nat → Int32) (n : Nat) : Nat → Nat
  | 0 => zskip g n n 0
  | j + 1 => if zpos g n j < n then zskip g n (n - zend g n (zpos g n j)) (zend g n (zpos g n j)) else n
def zsgk (g : Nat → Int32) (n p : Nat) : Int32 := if g p = 61 ∧ p + 1 < n ∧ g (p + 1) = 61 then 256 else if g p ∈ zSgs then g p else 20
/-- the class's row of the j-th word, v its NAME's number -/
def zRow (g : Nat → Int32) (n v : Nat) (r : Nat → Int32) (j : Nat) : Prop := r (3 * j + 1) = Int32.ofNat (zpos g n j) ∧
  (zltb (g (zpos g n j)) = true → r (3 * j) = (if v < 17 then Int32.ofNat v else 17) ∧ r (3 * j + 2) = Int32.ofNat v) ∧
  (zltb (g (zpos g n j)) = false → zdig (g (zpos g n j)) = true → r (3 * j) = (if zend g n (zpos g n j) - zpos g n j ≤ 9 then 18 else 20) ∧ r (3 * j + 2) = znum g (zend g n (zpos g n j) - zpos g n j) (zpos g n j) 0) ∧
  (zltb (g (zpos g n j)) = false → zdig (g (zpos g n j)) = false → r (3 * j) = zsgk g n (zpos g n j) ∧ r (3 * j + 2) = 0)
theorem pl_addW {t : zS} {w : Nat} {k pl v : Int32} (hw : t 50 4 = Int32.ofNat w) (h : w ≤ 3000) : mX10_add k pl v t = some (0, zu (zu (zu (zu t 67 (3 * w) k) 67 (3 * w + 1) pl) 67 (3 * w + 2) v) 50 4 (Int32.ofNat (w + 1))) := by
  unfold mX10_add
  have e3 : (3 : Int32) * Int32.ofNat w = Int32.ofNat (3 * w) := zn_mul 3 w
  have e1 : Int32.ofNat (3 * w) + 1 = Int32.ofNat (3 * w + 1) := zn_1 _
  have e2 : Int32.ofNat (3 * w) + 2 = Int32.ofNat (3 * w + 2) := zn_add (3 * w) 2
  rw [pl_let, hw, e3, e1, e2, if_neg (fun x => by have := pl_lt.mp x; rw [pl_ofn (by omega)] at this; have z0 : (0 : Int32).toInt = 0 := by decide
                                                  omega), if_neg (fun x => by have := pl_le.mp x; rw [pl_ofn (by omega)] at this; have z0 : (9003 : Int32).toInt = 9003 := by decide
                                                                              omega), zn_wr (by omega) (by decide), zn_wr (by omega) (by decide), zn_wr (by omega) (by decide), pl_pt, zu_ne1 (by decide), zu_ne1 (by decide), zu_ne1 (by decide), hw, zn_1]
/-- a NAME is cut -/
theorem pl_cutNameW {t : zS} {n p nn : Nat} {fl sl : Nat → Nat} (hn : n ≤ 3000) (hp : p < n) (hN : zNT t nn fl sl) (h6 : t 50 6 = Int32.ofNat (fl nn)) (hfl : fl nn ≤ 70 + p) (hnn : nn < 1600) :
    ∃ v nn2 fl2 sl2 t2, mX10_cutName (Int32.ofNat p) (Int32.ofNat n) t = zbd (mX10_add (if v < 17 then Int32.ofNat v else 17) (Int32.ofNat p) (Int32.ofNat v) t2) (fun _ t3 => some (Int32.ofNat (zrun zaln (t 2) n (n - p) p), t3)) ∧
      zNT t2 nn2 fl2 sl2 ∧ nn ≤ nn2 ∧ nn2 ≤ nn + 1 ∧ (∀ w, w ≤ nn → fl2 w = fl w) ∧ t2 50 6 = Int32.ofNat (fl2 nn2) ∧ fl2 nn2 ≤ fl nn + (zrun zaln (t 2) n (n - p) p - p) ∧ v < nn2 ∧
      fl2 (v + 1) - fl2 v = zrun zaln (t 2) n (n - p) p - p ∧ (∀ i, i < zrun zaln (t 2) n (n - p) p - p → t2 69 (fl2 v + i) = t 2 (p + i)) ∧ (∀ j, j < fl nn → t2 69 j = t 69 j) ∧ t2 50 4 = t 50 4 ∧ t2 67 = t 67 ∧ zWfr t t2 := by
  generalize he : zrun zaln (t 2) n (n - p) p = e
  have hle := zrun_le (f := zaln) (g := t 2) (n := n) (n - p) p (by omega)
  rw [he] at hle
  have h0 : mX10_cutName (Int32.ofNat p) (Int32.ofNat n) t = bX10_cutName_66 (Int32.ofNat p) (Int32.ofNat e) (zu (zblk t 69 (fl nn) (t 2) p (e - p)) 50 6 (Int32.ofNat (fl nn + (e - p)))) := by
    unfold mX10_cutName
    rw [show zFU = (999999 - (n - p)) + (n - p) + 1 by show 1000000 = _; omega, pl_cname hn (n - p) p (fl nn) _ _ _ t (by omega) rfl rfl h6 (by omega), he]
  have zb : ∀ k j, k ≠ 69 → zblk t 69 (fl nn) (t 2) p (e - p) k j = t k j := by
    intro k j hk; unfold zblk; rw [if_neg (fun x => hk x.1)]
  have zbr : ∀ k, k ≠ 69 → zblk t 69 (fl nn) (t 2) p (e - p) k = t k := fun k hk => funext (fun j => zb k j hk)
  have zbl : ∀ j, j < fl nn → zblk t 69 (fl nn) (t 2) p (e - p) 69 j = t 69 j := by
    intro j hj; unfold zblk; rw [if_neg (by omega)]
  have zbn : ∀ i, i < e - p → zblk t 69 (fl nn) (t 2) p (e - p) 69 (fl nn + i) = t 2 (p + i) := by
    intro i hi; unfold zblk; rw [if_pos ⟨rfl, by omega, by omega⟩, show fl nn + i - fl nn = i by omega]
  generalize hT : zu (zblk t 69 (fl nn) (t 2) p (e - p)) 50 6 (Int32.ofNat (fl nn + (e - p))) = t1 at h0
  have r69 : ∀ j, t1 69 j = zblk t 69 (fl nn) (t 2) p (e - p) 69 j := by intro j; rw [← hT, zu_ne1 (by decide)]
  have hN1 : zNT t1 nn fl sl := by
    refine zNT_congr hN ?_ ?_ ?_ (fun j hj => by rw [r69]; exact zbl j hj)
    · rw [← hT, zu_ne2 (by decide), zb _ _ (by decide)]
    · rw [← hT, zu_row (by decide), zbr _ (by decide)]
    · rw [← hT, zu_row (by decide), zbr _ (by decide)]
  have h61 : t1 50 6 = Int32.ofNat (fl nn + (e - p)) := by rw [← hT, zu_same]
  have h41 : t1 50 4 = t 50 4 := by rw [← hT, zu_ne2 (by decide), zb _ _ (by decide)]
  have h67 : t1 67 = t 67 := by rw [← hT, zu_row (by decide), zbr _ (by decide)]
  have hfr1 : zWfr t t1 := by
    intro k k1 k2 k3 k4 k5
    rw [← hT, zu_row k1, zbr k k3]
  have fin : ∀ (v : Nat) (t2 : zS), v < 1600 → mX10_nameNumber t1 = some (Int32.ofNat v, t2) → bX10_cutName_66 (Int32.ofNat p) (Int32.ofNat e) t1 = zbd (mX10_add (if v < 17 then Int32.ofNat v else 17) (Int32.ofNat p) (Int32.ofNat v) t2) (fun _ t3 => some (Int32.ofNat e, t3)) := by
    intro v t2 hv h
    unfold bX10_cutName_66
    rw [h, pl_bd]
    by_cases q : v < 17
    · rw [if_neg (fun x => by have := pl_le.mp x; rw [pl_ofn (by omega)] at this; have z0 : (17 : Int32).toInt = 17 := by decide
                              omega), if_pos q]
      rfl
    · rw [if_pos (by rw [pl_le, pl_ofn (by omega)]; have z0 : (17 : Int32).toInt = 17 := by decide
                     omega), if_neg q]
      rfl
  rw [h0]
  rcases pl_nameNumber hN1 h61 (by omega) (by omega) hnn with ⟨v, hv, hz, hm⟩ | ⟨_, s, hs, hm, hN2⟩
  · refine ⟨v, nn, fl, sl, zu t1 50 6 (Int32.ofNat (fl nn)), fin v _ (by omega) hm, zNT_congr hN1 (by rw [zu_ne2 (by decide)]) (by rw [zu_row (by decide)]) (by rw [zu_row (by decide)]) (fun j hj => by rw [zu_ne1 (by decide)]), Nat.le_refl _, by omega, fun _ _ => rfl, zu_same _ _ _ _, by omega, hv, ?_, fun i hi => ?_, fun j hj => ?_, by rw [zu_ne2 (by decide)]; exact h41, by rw [zu_row (by decide)]; exact h67, zWfr_trans hfr1 (zWfr_zu (by decide))⟩
    · have := hz.1; omega
    · have h2 := (zsame_iff _ _ _).mp hz.2 i (by omega)
      rw [zu_ne1 (by decide), h2, r69, zbn i hi]
    · rw [zu_ne1 (by decide), r69, zbl j hj]
  · refine ⟨nn, nn + 1, zup fl (nn + 1) (fl nn + (e - p)), zup sl nn s, _, fin nn _ (by omega) hm, hN2, by omega, Nat.le_refl _, fun w hw => ?_, ?_, ?_, by omega, ?_, fun i hi => ?_, fun j hj => ?_, ?_, ?_, zWfr_trans hfr1 (zWfr_trans (zWfr_trans (zWfr_zu (by decide)) (zWfr_zu (by decide))) (zWfr_zu (by decide)))⟩
    · simp only [zup]; rw [if_neg (by omega)]
    · rw [zu_ne1 (by decide), zu_ne2 (by decide), zu_ne1 (by decide), h61]; simp [zup]
    · simp [zup]
    · simp [zup]
    · rw [zu_ne1 (by decide), zu_ne1 (by decide), zu_ne1 (by decide), r69]
      simp only [zup]; rw [if_neg (by omega)]
      exact zbn i hi
    · rw [zu_ne1 (by decide), zu_ne1 (by decide), zu_ne1 (by decide), r69]
      exact zbl j hj
    · rw [zu_ne1 (by decide), zu_ne2 (by decide), zu_ne1 (by decide)]; exact h41
    · rw [zu_row (by decide), zu_row (by decide), zu_row (by decide)]; exact h67
