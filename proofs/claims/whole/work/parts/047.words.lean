/-! words as numbers: b with n letters -/
theorem dd {a b c : Int} (ha : 0 ≤ a) (hb : 0 ≤ b) (hc : 0 ≤ c) : a / b / c = a / (b * c) := by
  obtain ⟨x, rfl⟩ : ∃ x : Nat, a = x := ⟨a.toNat, by omega⟩
  obtain ⟨y, rfl⟩ : ∃ x : Nat, b = x := ⟨b.toNat, by omega⟩
  obtain ⟨z, rfl⟩ : ∃ x : Nat, c = x := ⟨c.toNat, by omega⟩
  show ((x / y / z : Nat) : Int) = ((x / (y * z) : Nat) : Int)
  rw [Nat.div_div_eq_div_mul]
theorem mm {x a b : Int} (hx : 0 ≤ x) (ha : 0 ≤ a) (hb : 0 ≤ b) : x % (a * b) = x % a + a * (x / a % b) := by
  obtain ⟨x, rfl⟩ : ∃ y : Nat, x = y := ⟨x.toNat, by omega⟩
  obtain ⟨y, rfl⟩ : ∃ x : Nat, a = x := ⟨a.toNat, by omega⟩
  obtain ⟨z, rfl⟩ : ∃ x : Nat, b = x := ⟨b.toNat, by omega⟩
  show ((x % (y * z) : Nat) : Int) = ((x % y + y * (x / y % z) : Nat) : Int)
  rw [Nat.mod_mul]
theorem ltr_e (b n j : Int) : ltr b n j = b / pw (n - j - 1) % 2 := rfl
theorem fct_0 (b n st : Int) : fct b n st 0 = 0 := by
  unfold fct
  rw [pw_0, Int.emod_one]
theorem fct_s {b n st k : Int} (hb : 0 ≤ b) (hk : 0 ≤ k) (h : st + k + 1 ≤ n) : fct b n st (k + 1) = 2 * fct b n st k + ltr b n (st + k) := by
  unfold fct
  rw [ltr_e, show n - st - k = (n - (st + k) - 1) + 1 by omega, pw_s (k := n - (st + k) - 1) (by omega), show n - st - (k + 1) = n - (st + k) - 1 by omega, pw_s hk, Int.mul_comm 2 (pw (n - (st + k) - 1)), ← dd hb (Int.le_of_lt (pw_pos _)) (by decide)]
  have hx := Int.ediv_nonneg hb (Int.le_of_lt (pw_pos (n - (st + k) - 1)))
  rw [mm hx (by decide) (Int.le_of_lt (pw_pos k))]
  omega
theorem fct_n {b n : Int} (h : 0 ≤ b ∧ b < pw n) : fct b n 0 n = b := by
  unfold fct
  rw [show n - 0 - n = 0 by omega, pw_0, Int.ediv_one, Int.emod_eq_of_lt h.1 h.2]
theorem sn_ltr {b n v j : Int} (hb : 0 ≤ b) (hv : 0 ≤ v ∧ v ≤ 1) (hj : 0 ≤ j ∧ j < n) : ltr (2 * b + v) (n + 1) j = ltr b n j := by
  rw [ltr_e, ltr_e, show n + 1 - j - 1 = (n - j - 1) + 1 by omega, pw_s (by omega), ← dd (by omega) (by decide) (Int.le_of_lt (pw_pos _)), show (2 * b + v) / 2 = b by omega]
theorem sn_last {b n v : Int} (hv : 0 ≤ v ∧ v ≤ 1) : ltr (2 * b + v) (n + 1) n = v := by
  rw [ltr_e, show n + 1 - n - 1 = 0 by omega, pw_0]
  omega
theorem sn_b {b n v : Int} (hn : 0 ≤ n) (hb : 0 ≤ b ∧ b < pw n) (hv : 0 ≤ v ∧ v ≤ 1) : 0 ≤ 2 * b + v ∧ 2 * b + v < pw (n + 1) := by
  rw [pw_s hn]
  omega
/-- a row of the reference holds a word -/
def RowIs (x : Int → Int) (b n : Int) : Prop := x 3 = n ∧ 0 ≤ n ∧ (0 ≤ b ∧ b < pw n) ∧ ∀ j : Int, 0 ≤ j → j < n → j < 60 → x (4 + j) = ltr b n j
/-- a letter appended to a row -/
def apX (x : Int → Int) (v : Int) : Int → Int := up1 (if x 3 < 60 then up1 x (4 + x 3) v else x) 3 (x 3 + 1)
theorem apX_3 (x : Int → Int) (v : Int) : apX x v 3 = x 3 + 1 := up1_s
theorem RowIs.sn {x : Int → Int} {b n v : Int} (h : RowIs x b n) (hv : 0 ≤ v ∧ v ≤ 1) : RowIs (apX x v) (2 * b + v) (n + 1) := by
  obtain ⟨h1, h2, h3, h4⟩ := h
  refine ⟨by rw [apX_3, h1], by omega, sn_b h2 h3 hv, fun j j1 j2 j3 => ?_⟩
  unfold apX
  rw [up1_n (by omega), h1]
  by_cases z : j = n
  · subst z
    rw [if_pos j3, up1_s, sn_last hv]
  · rw [sn_ltr h3.1 hv (by omega), ← h4 j j1 (by omega) j3]
    split
    · rw [up1_n (by omega)]
    · rfl
theorem RowIs.nil {x : Int → Int} : RowIs (up1 x 3 0) 0 0 := ⟨up1_s, Int.le_refl 0, ⟨Int.le_refl 0, by decide⟩, fun j h1 h2 => by omega⟩
/-- a word and the first k letters of another -/
theorem ct_s {a c m k : Int} (hc : 0 ≤ c) (hk : 0 ≤ k) (h : k + 1 ≤ m) : 2 * (a * pw k + fct c m 0 k) + ltr c m k = a * pw (k + 1) + fct c m 0 (k + 1) := by
  rw [fct_s hc hk (by omega), pw_s hk, Int.mul_left_comm, show (0 : Int) + k = k by omega]
  omega
/-- a word repeated -/
def rpB (a na t : Int) : Int := it (fun _ r => r * pw na + a) 0 t
theorem rpB_0 (a na : Int) : rpB a na 0 = 0 := it_0 (Int.le_refl 0)
theorem rpB_s {a na t : Int} (h : 0 ≤ t) : rpB a na (t + 1) = rpB a na t * pw na + a := it_s h
/-- the standard words: the newer one and the older one -/
def stT (p q k : Int) : Int := cft p q (k + 1) - (if k = 0 then 1 else 0)
def stS (p q i : Int) : (Int × Int) × (Int × Int) := it (fun k s => ((rpB s.1.1 s.1.2 (stT p q k) * pw s.2.2 + s.2.1, s.1.2 * stT p q k + s.2.2), s.1)) ((0, 1), (1, 1)) i
theorem stS_0 (p q : Int) : stS p q 0 = ((0, 1), (1, 1)) := it_0 (Int.le_refl 0)
theorem stS_s {p q i : Int} (h : 0 ≤ i) : stS p q (i + 1) = ((rpB (stS p q i).1.1 (stS p q i).1.2 (stT p q i) * pw (stS p q i).2.2 + (stS p q i).2.1, (stS p q i).1.2 * stT p q i + (stS p q i).2.2), (stS p q i).1) := it_s h
/-- the morphisms: the image of a letter, its size; the image of a word's first k letters -/
def mB (mo x : Int) : Int := if x = 0 then (if mo = 0 then 1 else if mo = 1 then 1 else if mo = 2 then 2 else 0) else (if mo = 3 then 1 else if mo = 4 then 2 else 0)
def mN (mo x : Int) : Int := if x = 0 then (if mo = 1 then 2 else if mo = 2 then 2 else 1) else (if mo = 3 then 2 else if mo = 4 then 2 else 1)
def imI (mo b n k : Int) : Int × Int := it (fun j s => (s.1 * pw (mN mo (ltr b n j)) + mB mo (ltr b n j), s.2 + mN mo (ltr b n j))) (0, 0) k
theorem imI_0 (mo b n : Int) : imI mo b n 0 = (0, 0) := it_0 (Int.le_refl 0)
theorem imI_s {mo b n k : Int} (h : 0 ≤ k) : imI mo b n (k + 1) = ((imI mo b n k).1 * pw (mN mo (ltr b n k)) + mB mo (ltr b n k), (imI mo b n k).2 + mN mo (ltr b n k)) := it_s h
theorem mN_r (mo x : Int) : 1 ≤ mN mo x ∧ mN mo x ≤ 2 := by
  unfold mN
  split
  · split
    · omega
    · split <;> omega
  · split
    · omega
    · split <;> omega
theorem mB_r (mo x : Int) : 0 ≤ mB mo x ∧ mB mo x < pw (mN mo x) := by
  have e1 : pw 1 = 2 := rfl
  have e2 : pw 2 = 4 := rfl
  unfold mB mN
  split
  · split
    · rw [if_neg (by omega), if_neg (by omega), e1]; omega
    · split
      · rw [e2]; omega
      · split
        · rw [e2]; omega
        · rw [e1]; omega
  · split
    · rw [e2]; omega
    · split
      · rw [e2]; omega
      · rw [e1]; omega
/-- the reference's spelling of an image -/
theorem img_2 {mo x : Int} (h1 : 0 ≤ mo ∧ mo ≤ 4) (h2 : 0 ≤ x ∧ x ≤ 1) : (99 < imgS mo x ↔ mN mo x = 2) ∧ (99 < imgS mo x → 2 * (imgS mo x / 10 % 10) + imgS mo x % 10 = mB mo x) ∧ (¬ 99 < imgS mo x → imgS mo x % 10 = mB mo x) ∧ 0 ≤ imgS mo x / 10 % 10 ∧ (99 < imgS mo x → imgS mo x / 10 % 10 ≤ 1) ∧ 0 ≤ imgS mo x % 10 ∧ imgS mo x % 10 ≤ 1 ∧ 20 ≤ imgS mo x ∧ imgS mo x ≤ 210 := by
  obtain ⟨x, rfl⟩ : ∃ y : Nat, x = y := ⟨x.toNat, by omega⟩
  obtain ⟨m, rfl⟩ : ∃ y : Nat, mo = y := ⟨mo.toNat, by omega⟩
  have key : ∀ m : Nat, m < 5 → ∀ x : Nat, x < 2 → (99 < imgS m x ↔ mN m x = 2) ∧ (99 < imgS m x → 2 * (imgS m x / 10 % 10) + imgS m x % 10 = mB m x) ∧ (¬ 99 < imgS m x → imgS m x % 10 = mB m x) ∧ 0 ≤ imgS m x / 10 % 10 ∧ (99 < imgS m x → imgS m x / 10 % 10 ≤ 1) ∧ 0 ≤ imgS m x % 10 ∧ imgS m x % 10 ≤ 1 ∧ 20 ≤ imgS m x ∧ imgS m x ≤ 210 := by decide +kernel
  exact key m (by omega) x (by omega)
/-- the letter behind a place of an image, and the parse of k letters: place, bits, size; place -1: none -/
def hasI (mo b n x v : Int) : Prop := x + mN mo v ≤ n ∧ fct b n x (mN mo v) = mB mo v
def lgI (mo : Int) : Int := if mN mo 0 < mN mo 1 then 1 else 0
noncomputable def lbI (mo b n x : Int) : Int := @ite _ (hasI mo b n x (lgI mo)) (Classical.propDecidable _) (lgI mo) (@ite _ (hasI mo b n x (1 - lgI mo)) (Classical.propDecidable _) (1 - lgI mo) (-1))
noncomputable def pIs (mo b n : Int) (s : Int × Int × Int) : Int × Int × Int := if s.1 < 0 ∨ n ≤ s.1 then s else if lbI mo b n s.1 = -1 then (-1, 0, 0) else (s.1 + mN mo (lbI mo b n s.1), 2 * s.2.1 + lbI mo b n s.1, s.2.2 + 1)
noncomputable def pI (mo b n k : Int) : Int × Int × Int := it (fun _ s => pIs mo b n s) (0, 0, 0) k
theorem pI_0 (mo b n : Int) : pI mo b n 0 = (0, 0, 0) := it_0 (Int.le_refl 0)
theorem pI_s {mo b n k : Int} (h : 0 ≤ k) : pI mo b n (k + 1) = pIs mo b n (pI mo b n k) := it_s h
theorem pI_go {mo b n k x ob ol : Int} (h : 0 ≤ k) (e : pI mo b n k = (x, ob, ol)) (hx : 0 ≤ x ∧ x < n) (hl : ¬ lbI mo b n x = -1) : pI mo b n (k + 1) = (x + mN mo (lbI mo b n x), 2 * ob + lbI mo b n x, ol + 1) := by
  rw [pI_s h, e]
  unfold pIs
  rw [if_neg (by show ¬ (x < 0 ∨ n ≤ x); omega), if_neg hl]
theorem pI_no {mo b n k x ob ol : Int} (h : 0 ≤ k) (e : pI mo b n k = (x, ob, ol)) (hx : 0 ≤ x ∧ x < n) (hl : lbI mo b n x = -1) : pI mo b n (k + 1) = (-1, 0, 0) := by
  rw [pI_s h, e]
  unfold pIs
  rw [if_neg (by show ¬ (x < 0 ∨ n ≤ x); omega), if_pos hl]
theorem pI_st {mo b n k : Int} (h : 0 ≤ k) (e : (pI mo b n k).1 < 0 ∨ n ≤ (pI mo b n k).1) {j : Int} (hj : k ≤ j) : pI mo b n j = pI mo b n k := by
  obtain ⟨i, rfl⟩ : ∃ i : Nat, j = k + i := ⟨(j - k).toNat, by omega⟩
  induction i with
  | zero => simp
  | succ i ih =>
    rw [show k + ((i + 1 : Nat) : Int) = k + i + 1 by omega, pI_s (by omega), ih (by omega)]
    unfold pIs
    rw [if_pos e]
theorem stS_st {p q i : Int} (h : 1 ≤ i) : stS p q i = ((rpB (stS p q (i - 1)).1.1 (stS p q (i - 1)).1.2 (stT p q (i - 1)) * pw (stS p q (i - 1)).2.2 + (stS p q (i - 1)).2.1, (stS p q (i - 1)).1.2 * stT p q (i - 1) + (stS p q (i - 1)).2.2), (stS p q (i - 1)).1) := by
  have e := stS_s (p := p) (q := q) (i := i - 1) (by omega)
  rwa [show i - 1 + 1 = i by omega] at e
/-- the word that loadStandard lays down -/
def stW (p q k : Int) : Int × Int := if k < 0 then (1, 1) else (stS p q k).1
/-- an image's letters stand at a place: the reference's test and the number's -/
theorem std_has {w : Int → Int} {mo b n x l : Int} (hw : RowIs w b n) (hn : n ≤ 60) (hmo : 0 ≤ mo ∧ mo ≤ 4) (hl : 0 ≤ l ∧ l ≤ 1) (hx : 0 ≤ x ∧ x < n) : stdP w (imgS mo l) x ↔ hasI mo b n x l := by
  have g := img_2 (mo := mo) (x := l) hmo hl
  have r := mN_r mo l
  have w1 := hw.2.2.2 x hx.1 hx.2 (by omega)
  have r1 := ltr_r b n x
  have f1 : fct b n x 1 = ltr b n x := rfl
  unfold stdP hasI
  rw [hw.1]
  rcases (show mN mo l = 2 ∨ mN mo l = 1 by omega) with q | q
  · rw [q]
    have g1 : 99 < imgS mo l := g.1.mpr q
    have g2 := g.2.1 g1
    by_cases z : x + 1 < n
    · have w2 := hw.2.2.2 (x + 1) (by omega) z (by omega)
      rw [show 4 + (x + 1) = 4 + x + 1 by omega] at w2
      have r2 := ltr_r b n (x + 1)
      have e := fct_s (b := b) (n := n) (st := x) (k := 1) hw.2.2.1.1 (by decide) (by omega)
      rw [show (1 : Int) + 1 = 2 by decide] at e
      rw [w1, w2, e, f1]
      constructor
      · rintro (⟨-, -, h3, h4⟩ | ⟨h, -⟩)
        · omega
        · omega
      · intro h
        exact Or.inl ⟨g1, z, by omega, by omega⟩
    · constructor
      · rintro (⟨-, h2, -⟩ | ⟨h, -⟩) <;> omega
      · intro h; omega
  · rw [q]
    have g1 : ¬ 99 < imgS mo l := fun y => by have := g.1.mp y; omega
    have g2 := g.2.2.1 g1
    rw [w1, f1]
    constructor
    · rintro (⟨h, -⟩ | ⟨-, h⟩)
      · omega
      · omega
    · intro h
      exact Or.inr ⟨by omega, by omega⟩
theorem lb_mod {w : Int → Int} {mo b n x fs lt : Int} (hw : RowIs w b n) (hn : n ≤ 60) (hmo : 0 ≤ mo ∧ mo ≤ 4) (hx : 0 ≤ x ∧ x < n) (hf : (99 < imgS mo 0 ∧ fs = 0) ∨ (imgS mo 0 ≤ 99 ∧ fs = 1)) (h : (stdP w (imgS mo fs) x ∧ lt = fs) ∨ (¬ stdP w (imgS mo fs) x ∧ lt = 1 - fs)) : (stdP w (imgS mo lt) x → lbI mo b n x = lt) ∧ (¬ stdP w (imgS mo lt) x → lbI mo b n x = -1) := by
  have g0 := (img_2 (mo := mo) (x := 0) hmo (by decide)).1
  rw [std_has hw hn hmo (l := fs) (by omega) hx] at h
  have hlt : 0 ≤ lt ∧ lt ≤ 1 := by rcases h with ⟨-, h⟩ | ⟨-, h⟩ <;> omega
  rw [std_has hw hn hmo (l := lt) hlt hx]
  by_cases m0 : mo = 0
  · subst m0
    have e1 : fs = 1 := by
      have : imgS 0 0 = 21 := rfl
      omega
    subst e1
    have e2 : lgI 0 = 0 := rfl
    have x1 : hasI 0 b n x 1 → ¬ hasI 0 b n x 0 := by
      rintro ⟨-, h1⟩ ⟨-, h2⟩
      have a1 : mN 0 1 = 1 := rfl
      have a2 : mN 0 0 = 1 := rfl
      have a3 : mB 0 1 = 0 := rfl
      have a4 : mB 0 0 = 1 := rfl
      rw [a1, a3] at h1
      rw [a2, a4] at h2
      omega
    unfold lbI
    rw [e2]
    rcases h with ⟨h, rfl⟩ | ⟨h, rfl⟩
    · rw [if_neg (x1 h), if_pos (show hasI 0 b n x (1 - 0) from h)]
      exact ⟨fun _ => rfl, fun z => absurd h z⟩
    · rw [show (1 : Int) - 1 = 0 by decide]
      constructor
      · intro z; rw [if_pos z]
      · intro z; rw [if_neg z, if_neg (show ¬ hasI 0 b n x (1 - 0) from h)]
  · have e2 : lgI mo = fs := by
      rcases (show mo = 1 ∨ mo = 2 ∨ mo = 3 ∨ mo = 4 by omega) with rfl | rfl | rfl | rfl
      · have : imgS 1 0 = 201 := rfl
        have : lgI 1 = 0 := rfl
        omega
      · have : imgS 2 0 = 210 := rfl
        have : lgI 2 = 0 := rfl
        omega
      · have : imgS 3 0 = 20 := rfl
        have : lgI 3 = 1 := rfl
        omega
      · have : imgS 4 0 = 20 := rfl
        have : lgI 4 = 1 := rfl
        omega
    unfold lbI
    rw [e2]
    rcases h with ⟨h, rfl⟩ | ⟨h, rfl⟩
    · rw [if_pos h]
      exact ⟨fun _ => rfl, fun z => absurd h z⟩
    · rw [if_neg h]
      constructor
      · intro z; rw [if_pos z]
      · intro z; rw [if_neg z]
theorem lsd_0 {x : Int → Int} : RowIs (up1 (up1 x 3 1) 4 0) 0 1 := ⟨by rw [up1_n (by decide), up1_s], by decide, ⟨by decide, by decide⟩, fun j h1 h2 h3 => by
  rw [show j = 0 by omega]
  exact up1_s⟩
theorem lsd_1 {x : Int → Int} : RowIs (up1 (up1 x 3 1) 4 1) 1 1 := ⟨by rw [up1_n (by decide), up1_s], by decide, ⟨by decide, by decide⟩, fun j h1 h2 h3 => by
  rw [show j = 0 by omega]
  exact up1_s⟩
