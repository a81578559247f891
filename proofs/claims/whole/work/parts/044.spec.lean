/-! what the methods answer, as functions of whole numbers -/
def zf (f : Int → Int) : Nat → Int32 := fun j => iZ (f (j : Int))
def up1 (f : Int → Int) (k v : Int) : Int → Int := fun j => if j = k then v else f j
theorem up1_s {f : Int → Int} {k v : Int} : up1 f k v k = v := if_pos rfl
theorem up1_n {f : Int → Int} {k v j : Int} (h : j ≠ k) : up1 f k v j = f j := if_neg h
theorem zf_at {f : Int → Int} {k : Int} (h : 0 ≤ k ∧ k < 2147483648) : zf f (iZ k).toNatClampNeg = iZ (f k) := by
  rw [iZ_cl h.1 h.2]
  show iZ (f ((k.toNat : Nat) : Int)) = _
  rw [Int.toNat_of_nonneg h.1]
theorem zf_up {f : Int → Int} {k v : Int} (h : 0 ≤ k ∧ k < 2147483648) : upd (zf f) (iZ k).toNatClampNeg (iZ v) = zf (up1 f k v) := by
  rw [iZ_cl h.1 h.2]
  funext j
  show (if j = k.toNat then iZ v else iZ (f j)) = iZ (if (j : Int) = k then v else f j)
  by_cases q : j = k.toNat
  · rw [if_pos q, if_pos (by omega)]
  · rw [if_neg q, if_neg (by omega)]
/-- a count below N -/
noncomputable def cntN (P : Int → Prop) : Nat → Int
  | 0 => 0
  | k + 1 => cntN P k + bv (P (k : Int))
noncomputable def cnt (P : Int → Prop) (N : Int) : Int := cntN P N.toNat
theorem cnt_0 {P : Int → Prop} {N : Int} (h : N ≤ 0) : cnt P N = 0 := by
  unfold cnt
  rw [show N.toNat = 0 by omega]
  rfl
theorem cnt_s {P : Int → Prop} {N : Int} (h : 0 ≤ N) : cnt P (N + 1) = cnt P N + bv (P N) := by
  unfold cnt
  rw [show (N + 1).toNat = N.toNat + 1 by omega]
  show cntN P N.toNat + bv (P ((N.toNat : Nat) : Int)) = _
  rw [Int.toNat_of_nonneg h]
theorem cnt_t {P : Int → Prop} {N : Int} (h : 0 ≤ N) (q : P N) : cnt P (N + 1) = cnt P N + 1 := by rw [cnt_s h, bv_t q]
theorem cnt_f {P : Int → Prop} {N : Int} (h : 0 ≤ N) (q : ¬ P N) : cnt P (N + 1) = cnt P N := by rw [cnt_s h, bv_f q, Int.add_zero]
theorem cntN_le (P : Int → Prop) : ∀ k : Nat, 0 ≤ cntN P k ∧ cntN P k ≤ k
  | 0 => ⟨Int.le_refl 0, Int.le_refl 0⟩
  | k + 1 => by
    have h := cntN_le P k
    have q := bv_r (P (k : Int))
    show 0 ≤ cntN P k + _ ∧ cntN P k + _ ≤ _
    omega
theorem cnt_le {P : Int → Prop} {N : Int} (h : 0 ≤ N) : 0 ≤ cnt P N ∧ cnt P N ≤ N := by
  have := cntN_le P N.toNat
  unfold cnt
  omega
theorem cnt_c {P Q : Int → Prop} {N : Int} (h : ∀ k, 0 ≤ k → k < N → (P k ↔ Q k)) : cnt P N = cnt Q N := by
  have key : ∀ k : Nat, (k : Int) ≤ N → cntN P k = cntN Q k := by
    intro k
    induction k with
    | zero => intro _; rfl
    | succ k ih =>
      intro hk
      show cntN P k + _ = cntN Q k + _
      rw [ih (by omega), bv_c (h k (by omega) (by omega))]
  unfold cnt
  rcases Int.lt_or_le N 0 with q | q
  · rw [show N.toNat = 0 by omega]; rfl
  · exact key _ (by omega)
/-- a recursion below N -/
def itN {α : Type} (f : Int → α → α) (a : α) : Nat → α
  | 0 => a
  | k + 1 => f (k : Int) (itN f a k)
def it {α : Type} (f : Int → α → α) (a : α) (N : Int) : α := itN f a N.toNat
theorem it_0 {α : Type} {f : Int → α → α} {a : α} {N : Int} (h : N ≤ 0) : it f a N = a := by
  unfold it
  rw [show N.toNat = 0 by omega]
  rfl
theorem it_s {α : Type} {f : Int → α → α} {a : α} {N : Int} (h : 0 ≤ N) : it f a (N + 1) = f N (it f a N) := by
  unfold it
  rw [show (N + 1).toNat = N.toNat + 1 by omega]
  show f ((N.toNat : Nat) : Int) _ = _
  rw [Int.toNat_of_nonneg h]
/-- the factor of ct letters from st on of the word b of n letters, as a number -/
def fct (b n st ct : Int) : Int := b / pw (n - st - ct) % pw ct
def ltr (b n j : Int) : Int := fct b n j 1
theorem fct_r (b n st ct : Int) : 0 ≤ fct b n st ct ∧ fct b n st ct < pw ct := ⟨Int.emod_nonneg _ (by have := pw_pos ct; omega), Int.emod_lt_of_pos _ (pw_pos ct)⟩
theorem fct_b {b n st ct : Int} (h : ct ≤ 61) : 0 ≤ fct b n st ct ∧ fct b n st ct < 2305843009213693953 := by
  have h1 := fct_r b n st ct
  have h2 := pw_62 h
  omega
theorem ltr_r (b n j : Int) : 0 ≤ ltr b n j ∧ ltr b n j < 2 := fct_r b n j 1
def newP (b n st ct : Int) : Prop := ∀ k : Int, 0 ≤ k → k < st → fct b n k ct ≠ fct b n st ct
/-- the number of the ones of a number's binary digits -/
def pcN : Nat → Nat → Int
  | 0, _ => 0
  | k + 1, b => (b % 2 : Nat) + pcN k (b / 2)
def ons (b : Int) : Int := pcN 64 b.toNat
theorem pcN_r : ∀ (k b : Nat), 0 ≤ pcN k b ∧ pcN k b ≤ k
  | 0, _ => ⟨Int.le_refl 0, Int.le_refl 0⟩
  | k + 1, b => by
    have := pcN_r k (b / 2)
    show 0 ≤ ((b % 2 : Nat) : Int) + _ ∧ ((b % 2 : Nat) : Int) + _ ≤ _
    omega
theorem ons_r (b : Int) : 0 ≤ ons b ∧ ons b ≤ 64 := pcN_r 64 _
/-- the least of the first N numbers f above a; -1 if there is none -/
noncomputable def nxt (f : Int → Int) (a N : Int) : Int := it (fun k r => @ite _ (a < f k ∧ (r = -1 ∨ f k < r)) (Classical.propDecidable _) (f k) r) (-1) N
/-- the i-th of them in order -/
noncomputable def lstF (f : Int → Int) (N i : Int) : Int := it (fun _ r => @ite _ (r = -1) (Classical.propDecidable _) (-1) (nxt f r N)) (nxt f (-1) N) i
theorem lstF_m {f : Int → Int} {N i : Int} (hi : 0 ≤ i) (h : lstF f N i = -1) {j : Int} (hj : i ≤ j) : lstF f N j = -1 := by
  obtain ⟨k, rfl⟩ : ∃ k : Nat, j = i + k := ⟨(j - i).toNat, by omega⟩
  induction k with
  | zero => simpa using h
  | succ k ih =>
    have e : lstF f N (i + k + 1) = @ite _ (lstF f N (i + k) = -1) (Classical.propDecidable _) (-1) (nxt f (lstF f N (i + k)) N) := it_s (by omega)
    rw [show i + ((k + 1 : Nat) : Int) = i + k + 1 by omega, e, if_pos (ih (by omega))]
/-- Euclid's steps on dividend and divisor -/
def euS (x : Int × Int) : Int × Int := if x.2 ≤ 0 then x else (x.2, x.1 % x.2)
def eu (p q k : Int) : Int × Int := it (fun _ x => euS x) (q, p) k
theorem eu_0 (p q : Int) : eu p q 0 = (q, p) := it_0 (Int.le_refl 0)
theorem eu_s {p q k : Int} (h : 0 ≤ k) : eu p q (k + 1) = euS (eu p q k) := it_s h
theorem eu_p {p q k : Int} (h : 0 ≤ k) (q2 : 0 < (eu p q k).2) : eu p q (k + 1) = ((eu p q k).2, (eu p q k).1 % (eu p q k).2) := by
  rw [eu_s h]
  unfold euS
  rw [if_neg (by omega)]
theorem eu_z {p q k : Int} (h : 0 ≤ k) (q2 : (eu p q k).2 ≤ 0) {j : Int} (hj : k ≤ j) : eu p q j = eu p q k := by
  obtain ⟨i, rfl⟩ : ∃ i : Nat, j = k + i := ⟨(j - k).toNat, by omega⟩
  induction i with
  | zero => simp
  | succ i ih =>
    rw [show k + ((i + 1 : Nat) : Int) = k + i + 1 by omega, eu_s (by omega), ih (by omega)]
    unfold euS
    rw [if_pos q2]
/-- the term of the continued fraction, from 1 on; -1 if there is none -/
def cft (p q i : Int) : Int := if 0 < (eu p q (i - 1)).2 then (eu p q (i - 1)).1 / (eu p q (i - 1)).2 else -1
theorem sub_mul_div (a b : Int) : a - a / b * b = a % b := by rw [Int.emod_def, Int.mul_comm b]
/-- the letter n of a mechanical word -/
def mlt (p q c up n : Int) : Int := (n * p + c + (if up = 0 then 0 else q - 1) + p) / q - (n * p + c + (if up = 0 then 0 else q - 1)) / q
/-- the interval of intercepts -/
def sm (f : Int → Int) (N : Int) : Int := it (fun k r => r + f k) 0 N
theorem sm_0 (f : Int → Int) : sm f 0 = 0 := it_0 (Int.le_refl 0)
theorem sm_s {f : Int → Int} {N : Int} (h : 0 ≤ N) : sm f (N + 1) = sm f N + f N := it_s h
def lilo (f : Int → Int) (a q N : Int) : Int := it (fun k r => max r (sm f (k + 1) * q - (k + 1) * a)) 0 N
def lihi (f : Int → Int) (a q N : Int) : Int := it (fun k r => min r (sm f (k + 1) * q - (k + 1) * a + q - 1)) (q - 1) N
theorem cd_step {la sm : Int} (h1 : 0 ≤ la) (h2 : 0 ≤ sm) : Int.gcd (la % sm) sm = Int.gcd sm la := by
  obtain ⟨x, rfl⟩ : ∃ x : Nat, la = x := ⟨la.toNat, by omega⟩
  obtain ⟨y, rfl⟩ : ∃ y : Nat, sm = y := ⟨sm.toNat, by omega⟩
  show Nat.gcd (x % y) y = Nat.gcd y x
  exact (Nat.gcd_rec y x).symm
theorem cd_0 {la : Int} (h : 0 ≤ la) : ((Int.gcd 0 la : Nat) : Int) = la := by
  obtain ⟨x, rfl⟩ : ∃ x : Nat, la = x := ⟨la.toNat, by omega⟩
  show ((Nat.gcd 0 x : Nat) : Int) = x
  rw [Nat.gcd_zero_left]
theorem cd_r {a d : Int} (hd : 0 < d) : 0 < ((Int.gcd a d : Nat) : Int) ∧ ((Int.gcd a d : Nat) : Int) ≤ d := by
  have h1 : 0 < Int.gcd a d := Nat.pos_of_ne_zero (fun h => by have := (Int.gcd_eq_zero_iff.mp h).2; omega)
  have h2 : ((Int.gcd a d : Nat) : Int) ≤ d := Int.le_of_dvd hd (Int.gcd_dvd_right ..)
  omega
theorem nxt_step {f : Int → Int} {a i le le2 : Int} (hi : 0 ≤ i) (h : le = nxt f a i) (h2 : (a < f i ∧ (le = -1 ∨ f i < le) ∧ le2 = f i) ∨ (¬ (a < f i ∧ (le = -1 ∨ f i < le)) ∧ le2 = le)) : le2 = nxt f a (i + 1) := by
  have e : nxt f a (i + 1) = @ite _ (a < f i ∧ (nxt f a i = -1 ∨ f i < nxt f a i)) (Classical.propDecidable _) (f i) (nxt f a i) := it_s hi
  rw [e, ← h]
  rcases h2 with ⟨q1, q2, q3⟩ | ⟨q1, q2⟩
  · rw [if_pos ⟨q1, q2⟩, q3]
  · rw [if_neg q1, q2]
theorem nxt_b {f : Int → Int} {a N M : Int} (hM : -1 < M) (h : ∀ k, 0 ≤ f k ∧ f k < M) : -1 ≤ nxt f a N ∧ nxt f a N < M := by
  have key : ∀ k : Nat, -1 ≤ itN (fun k r => @ite _ (a < f k ∧ (r = -1 ∨ f k < r)) (Classical.propDecidable _) (f k) r) (-1) k ∧ itN (fun k r => @ite _ (a < f k ∧ (r = -1 ∨ f k < r)) (Classical.propDecidable _) (f k) r) (-1) k < M := by
    intro k
    induction k with
    | zero => exact ⟨Int.le_refl _, hM⟩
    | succ k ih =>
      have := h k
      show -1 ≤ @ite Int _ (Classical.propDecidable _) (f k) _ ∧ @ite Int _ (Classical.propDecidable _) (f k) _ < M
      split
      · omega
      · exact ih
  exact key _
theorem lst_step {f : Int → Int} {N i fa : Int} (hi : 0 ≤ i) (h : fa = lstF f N i) (h2 : ¬ fa = -1) : nxt f fa N = lstF f N (i + 1) := by
  have e : lstF f N (i + 1) = @ite _ (lstF f N i = -1) (Classical.propDecidable _) (-1) (nxt f (lstF f N i) N) := it_s hi
  rw [e, ← h, if_neg h2]
/-- the first k below N with P; -1 if there is none -/
noncomputable def fnd (P : Int → Prop) (N : Int) : Int := it (fun k r => @ite _ (r = -1 ∧ P k) (Classical.propDecidable _) k r) (-1) N
theorem fnd_0 {P : Int → Prop} {N : Int} (h : N ≤ 0) : fnd P N = -1 := it_0 h
theorem fnd_s {P : Int → Prop} {N : Int} (h : 0 ≤ N) : fnd P (N + 1) = @ite _ (fnd P N = -1 ∧ P N) (Classical.propDecidable _) N (fnd P N) := it_s h
theorem fnd_miss {P : Int → Prop} {i : Int} (hi : 0 ≤ i) (h : fnd P i = -1) (q : ¬ P i) : fnd P (i + 1) = -1 := by rw [fnd_s hi, if_neg (fun z => q z.2), h]
theorem fnd_keep {P : Int → Prop} {i v : Int} (hi : 0 ≤ i) (h : fnd P i = v) (hv : ¬ v = -1) {N : Int} (hN : i ≤ N) : fnd P N = v := by
  obtain ⟨k, rfl⟩ : ∃ k : Nat, N = i + k := ⟨(N - i).toNat, by omega⟩
  induction k with
  | zero => simpa using h
  | succ k ih =>
    rw [show i + ((k + 1 : Nat) : Int) = i + k + 1 by omega, fnd_s (by omega), ih (by omega), if_neg (fun z => hv z.1)]
theorem fnd_hit {P : Int → Prop} {i N : Int} (hi : 0 ≤ i) (h : fnd P i = -1) (q : P i) (hN : i < N) : fnd P N = i := by
  refine fnd_keep (i := i + 1) (by omega) ?_ (by omega) (by omega)
  rw [fnd_s hi, if_pos ⟨h, q⟩]
theorem fnd_c {P Q : Int → Prop} {N : Int} (h : ∀ k, 0 ≤ k → k < N → (P k ↔ Q k)) : fnd P N = fnd Q N := by
  have key : ∀ k : Nat, (k : Int) ≤ N → fnd P k = fnd Q k := by
    intro k
    induction k with
    | zero => intro _; rw [fnd_0 (by omega), fnd_0 (by omega)]
    | succ k ih =>
      intro hk
      rw [show ((k + 1 : Nat) : Int) = (k : Int) + 1 by omega, fnd_s (by omega), fnd_s (by omega), ih (by omega)]
      have := propext (h k (by omega) (by omega))
      rw [this]
  rcases Int.lt_or_le N 0 with q | q
  · rw [fnd_0 (by omega), fnd_0 (by omega)]
  · have := key N.toNat (by omega)
    rwa [Int.toNat_of_nonneg q] at this
/-- how two factors of a row compare -/
def cmpS (w : Int → Int) (a b m : Int) : Int := it (fun k r => if r = 0 then w (4 + a + k) - w (4 + b + k) else r) 0 m
theorem cmpS_s {w : Int → Int} {a b m : Int} (h : 0 ≤ m) (q : cmpS w a b m = 0) : cmpS w a b (m + 1) = w (4 + a + m) - w (4 + b + m) := by
  show it _ _ (m + 1) = _
  rw [it_s h]
  show (if cmpS w a b m = 0 then _ else _) = _
  rw [if_pos q]
theorem cmpS_k {w : Int → Int} {a b i : Int} (hi : 0 ≤ i) (q : ¬ cmpS w a b i = 0) {m : Int} (hm : i ≤ m) : cmpS w a b m = cmpS w a b i := by
  obtain ⟨k, rfl⟩ : ∃ k : Nat, m = i + k := ⟨(m - i).toNat, by omega⟩
  induction k with
  | zero => simp
  | succ k ih =>
    have e := ih (by omega)
    rw [show i + ((k + 1 : Nat) : Int) = i + k + 1 by omega]
    show it _ _ (i + k + 1) = _
    rw [it_s (by omega)]
    show (if cmpS w a b (i + k) = 0 then _ else cmpS w a b (i + k)) = _
    rw [e, if_neg q]
def fstP (w : Int → Int) (st m : Int) : Prop := ∀ k : Int, 0 ≤ k → k < st → ¬ cmpS w k st m = 0
def numS (w : Int → Int) (a m : Int) : Int := it (fun k v => 2 * v + w (4 + a + k)) 0 m
def palP (w : Int → Int) (f m : Int) : Prop := ∀ k : Int, 0 ≤ k → k < m / 2 → w (4 + f + k) = w (4 + f + m - 1 - k)
def perP (w : Int → Int) (t : Int) : Prop := ∀ k : Int, 0 ≤ k → k + t < w 3 → w (4 + k) = w (4 + k + t)
def begP (w : Int → Int) (a b d : Int) : Prop := ∀ k : Int, 0 ≤ k → k < w 3 → ((k + 1) * a + d) / b - (k * a + d) / b = w (4 + k)
def imgS (m x : Int) : Int := if m = 0 then 21 - x else if m = 1 then (if x = 0 then 201 else 20) else if m = 2 then (if x = 0 then 210 else 20) else if m = 3 then (if x = 0 then 20 else 201) else (if x = 0 then 20 else 210)
def stdP (w : Int → Int) (im x : Int) : Prop := (99 < im ∧ x + 1 < w 3 ∧ w (4 + x) = im / 10 % 10 ∧ w (4 + x + 1) = im % 10) ∨ (im ≤ 99 ∧ w (4 + x) = im % 10)
/-- the sum of a factor's letters, the least and the greatest of them over the first N starts -/
def smW (w : Int → Int) (a m : Int) : Int := it (fun k r => r + w (4 + a + k)) 0 m
def mnW (w : Int → Int) (m N : Int) : Int := it (fun a r => if smW w a m < r then smW w a m else r) 60 N
def mxW (w : Int → Int) (m N : Int) : Int := it (fun a r => if r < smW w a m then smW w a m else r) 0 N
theorem cmpS_r {w : Int → Int} (hL : ∀ x, 4 ≤ x → x < 4 + w 3 → 0 ≤ w x ∧ w x ≤ 1) {x y m : Int} (h1 : 0 ≤ x ∧ 0 ≤ y ∧ 0 ≤ m) (h2 : x + m ≤ w 3) (h3 : y + m ≤ w 3) : -1 ≤ cmpS w x y m ∧ cmpS w x y m ≤ 1 := by
  have key : ∀ k : Nat, (k : Int) ≤ m → -1 ≤ cmpS w x y k ∧ cmpS w x y k ≤ 1 := by
    intro k
    induction k with
    | zero =>
      intro _
      rw [show cmpS w x y ((0 : Nat) : Int) = 0 from it_0 (by omega)]
      omega
    | succ k ih =>
      intro hk
      have q := ih (by omega)
      rw [show ((k + 1 : Nat) : Int) = (k : Int) + 1 by omega]
      by_cases z : cmpS w x y k = 0
      · rw [cmpS_s (by omega) z]
        have := hL (4 + x + k) (by omega) (by omega)
        have := hL (4 + y + k) (by omega) (by omega)
        omega
      · rw [cmpS_k (i := k) (by omega) z (by omega)]
        exact q
  have := key m.toNat (by omega)
  rwa [Int.toNat_of_nonneg h1.2.2] at this
theorem fnd_eq {P : Int → Prop} {x N v : Int} (h : fnd P x = v) (e : x = N) : fnd P N = v := e ▸ h
theorem fnd_none {P : Int → Prop} {N : Int} (h : ∀ k, 0 ≤ k → k < N → ¬ P k) : fnd P N = -1 := by
  have key : ∀ k : Nat, (k : Int) ≤ N → fnd P k = -1 := by
    intro k
    induction k with
    | zero => intro _; exact fnd_0 (by omega)
    | succ k ih =>
      intro hk
      rw [show ((k + 1 : Nat) : Int) = (k : Int) + 1 by omega]
      exact fnd_miss (by omega) (ih (by omega)) (h k (by omega) (by omega))
  rcases Int.lt_or_le N 0 with q | q
  · exact fnd_0 (by omega)
  · exact fnd_eq (key N.toNat (by omega)) (Int.toNat_of_nonneg q)
/-- the simplest slope: the first intercept, the first numerator, the first denominator -/
noncomputable def siD (w : Int → Int) (b a : Int) : Int := fnd (fun d => (Int.gcd a b : Int) = 1 ∧ begP w a b d) b
noncomputable def siA (w : Int → Int) (b : Int) : Int := fnd (fun a => ¬ siD w b a = -1) (b + 1)
noncomputable def siB (w : Int → Int) : Int := fnd (fun b => 1 ≤ b ∧ ¬ siA w b = -1) 62
noncomputable def siR (w : Int → Int) (part : Int) : Int := if siB w = -1 then -3 else if part = 0 then siA w (siB w) else if part = 1 then siB w else siD w (siB w) (siA w (siB w))
theorem siR_hit {w : Int → Int} {b a d part : Int} (hb : 1 ≤ b ∧ b < 62) (ha : 0 ≤ a ∧ a ≤ b) (hd : 0 ≤ d ∧ d < b) (h1 : fnd (fun b => 1 ≤ b ∧ ¬ siA w b = -1) b = -1) (h2 : fnd (fun a => ¬ siD w b a = -1) a = -1) (h3 : fnd (fun d => (Int.gcd a b : Int) = 1 ∧ begP w a b d) d = -1) (h4 : (Int.gcd a b : Int) = 1 ∧ begP w a b d) : siR w part = if part = 0 then a else if part = 1 then b else d := by
  have e1 : siD w b a = d := fnd_hit hd.1 h3 h4 hd.2
  have e2 : siA w b = a := fnd_hit (P := fun a => ¬ siD w b a = -1) ha.1 h2 (by show ¬ siD w b a = -1; omega) (by omega)
  have e3 : siB w = b := fnd_hit (P := fun b => 1 ≤ b ∧ ¬ siA w b = -1) (by omega) h1 ⟨hb.1, by omega⟩ hb.2
  unfold siR
  rw [e3, if_neg (by omega), e2, e1]
/-- the distance from a point to the next one -/
noncomputable def nxg (pt : Int → Int) (q k : Int) : Int := fnd (fun g => 1 ≤ g ∧ ¬ pt ((k + g) % q) = 0) (q + 1)
/-- 64 places copied, the first k of them -/
def cpy (f : Int → Int) (i : Int) (t : Int → Int) (j k : Int) : Int → Int := fun x => if j ≤ x ∧ x < j + k then f (i + (x - j)) else t x
theorem cpy_0 (f : Int → Int) (i : Int) (t : Int → Int) (j : Int) : cpy f i t j 0 = t := by
  funext x
  exact if_neg (by omega)
theorem cpy_s {f : Int → Int} {i : Int} {t : Int → Int} {j k : Int} (h : 0 ≤ k) : up1 (cpy f i t j k) (j + k) (f (i + k)) = cpy f i t j (k + 1) := by
  funext x
  unfold up1 cpy
  by_cases q : x = j + k
  · subst q
    rw [if_pos rfl, if_pos (by omega), show j + k - j = k by omega]
  · rw [if_neg q]
    by_cases z : j ≤ x ∧ x < j + k
    · rw [if_pos z, if_pos (by omega)]
    · rw [if_neg z, if_neg (by omega)]
/-- rows moved down by 64 -/
def shd (f : Int → Int) (k : Int) : Int → Int := fun x => if 0 ≤ x ∧ x < k then f (x + 64) else f x
theorem shd_0 (f : Int → Int) : shd f 0 = f := by
  funext x
  exact if_neg (by omega)
theorem shd_g {f : Int → Int} {k x : Int} (h : k ≤ x) : shd f k x = f x := if_neg (by omega)
theorem shd_s {f : Int → Int} {k : Int} (h : 0 ≤ k) : up1 (shd f k) k (f (k + 64)) = shd f (k + 1) := by
  funext x
  unfold up1 shd
  by_cases q : x = k
  · subst q
    rw [if_pos rfl, if_pos (by omega)]
  · rw [if_neg q]
    by_cases z : 0 ≤ x ∧ x < k
    · rw [if_pos z, if_pos (by omega)]
    · rw [if_neg z, if_neg (by omega)]
/-- the past and the number of edits behind a save -/
def svP (ps nw : Int → Int) (ed : Int) : Int → Int := cpy nw 0 (if ed = 6 then shd ps 320 else ps) (64 * (if ed = 6 then 5 else ed)) 64
def svE (ed : Int) : Int := (if ed = 6 then 5 else ed) + 1
/-- the next and the current row behind a take -/
def tkX (nx nw : Int → Int) : Int → Int := up1 (up1 (up1 nx 0 (nw 0)) 1 (nw 1)) 2 (nw 2)
def tkW (nx nw : Int → Int) : Int → Int := cpy (tkX nx nw) 0 nw 0 64
/-- the terms behind an expansion, the first k of them -/
def tmE (tm : Int → Int) (p q k : Int) : Int → Int := fun x => if 0 ≤ x ∧ x < k then cft p q (x + 1) else tm x
theorem tmE_0 (tm : Int → Int) (p q : Int) : tmE tm p q 0 = tm := by
  funext x
  exact if_neg (by omega)
theorem tmE_s {tm : Int → Int} {p q k : Int} (h : 0 ≤ k) : up1 (tmE tm p q k) k (cft p q (k + 1)) = tmE tm p q (k + 1) := by
  funext x
  unfold up1 tmE
  by_cases z : x = k
  · subst z
    rw [if_pos rfl, if_pos (by omega)]
  · rw [if_neg z]
    by_cases y : 0 ≤ x ∧ x < k
    · rw [if_pos y, if_pos (by omega)]
    · rw [if_neg y, if_neg (by omega)]
/-- Euclid's numbers: what they are between, and how fast they fall -/
theorem eu_r {p q : Int} (hp : 0 ≤ p ∧ p ≤ q) (hq : 0 < q) : ∀ k : Nat, 0 ≤ (eu p q k).2 ∧ (eu p q k).2 ≤ (eu p q k).1 ∧ 0 < (eu p q k).1 ∧ (eu p q k).1 ≤ q
  | 0 => by rw [show ((0 : Nat) : Int) = 0 from rfl, eu_0]; exact ⟨hp.1, hp.2, hq, Int.le_refl q⟩
  | k + 1 => by
    have h := eu_r hp hq k
    rw [show ((k + 1 : Nat) : Int) = (k : Int) + 1 by omega]
    by_cases z : 0 < (eu p q k).2
    · rw [eu_p (by omega) z]
      have e1 := Int.emod_nonneg (eu p q k).1 (show (eu p q k).2 ≠ 0 by omega)
      have e2 := Int.emod_lt_of_pos (eu p q k).1 z
      exact ⟨e1, Int.le_of_lt e2, z, by omega⟩
    · rw [eu_z (k := (k : Int)) (by omega) (by omega) (by omega)]
      exact h
theorem eu_h {p q : Int} (hp : 0 ≤ p ∧ p ≤ q) (hq : 0 < q) (k : Nat) (z : 0 < (eu p q (k + 1)).2) : 2 * (eu p q (k + 2)).1 ≤ (eu p q k).1 := by
  have h := eu_r hp hq k
  have z0 : 0 < (eu p q k).2 := by
    rcases Int.lt_or_le 0 (eu p q k).2 with y | y
    · exact y
    · rw [eu_z (k := (k : Int)) (by omega) y (by omega)] at z; omega
  have e := eu_p (p := p) (q := q) (k := k) (by omega) z0
  rw [show (k : Int) + 2 = (k : Int) + 1 + 1 by omega, eu_p (by omega) z]
  show 2 * (eu p q (k + 1)).2 ≤ _
  rw [e]
  show 2 * ((eu p q k).1 % (eu p q k).2) ≤ _
  have e2 := Int.emod_lt_of_pos (eu p q k).1 z0
  have e3 := Int.emod_add_mul_ediv (eu p q k).1 (eu p q k).2
  have e4 : 1 ≤ (eu p q k).1 / (eu p q k).2 := by
    rw [Int.le_ediv_iff_mul_le z0]; omega
  have e5 : (eu p q k).2 * 1 ≤ (eu p q k).2 * ((eu p q k).1 / (eu p q k).2) := Int.mul_le_mul_of_nonneg_left e4 (by omega)
  omega
theorem eu_20 {p q k : Int} (hp : 0 ≤ p ∧ p ≤ q) (hq : 0 < q ∧ q ≤ 1000) (hk : 0 ≤ k) (z : 0 < (eu p q k).2) : k < 19 := by
  rcases Int.lt_or_le k 19 with y | y
  · exact y
  · exfalso
    have all : ∀ j : Int, 0 ≤ j → j ≤ 19 → 0 < (eu p q j).2 := by
      intro j hj hj2
      rcases Int.lt_or_le 0 (eu p q j).2 with x | x
      · exact x
      · rw [eu_z hj x (show j ≤ k by omega)] at z; omega
    have h := fun (j : Nat) (hj : (j : Int) + 1 ≤ 19) => eu_h hp hq.1 j (all _ (by omega) hj)
    have a0 : 2 * (eu p q 2).1 ≤ (eu p q 0).1 := h 0 (by decide)
    have a2 : 2 * (eu p q 4).1 ≤ (eu p q 2).1 := h 2 (by decide)
    have a4 : 2 * (eu p q 6).1 ≤ (eu p q 4).1 := h 4 (by decide)
    have a6 : 2 * (eu p q 8).1 ≤ (eu p q 6).1 := h 6 (by decide)
    have a8 : 2 * (eu p q 10).1 ≤ (eu p q 8).1 := h 8 (by decide)
    have a10 : 2 * (eu p q 12).1 ≤ (eu p q 10).1 := h 10 (by decide)
    have a12 : 2 * (eu p q 14).1 ≤ (eu p q 12).1 := h 12 (by decide)
    have a14 : 2 * (eu p q 16).1 ≤ (eu p q 14).1 := h 14 (by decide)
    have a16 : 2 * (eu p q 18).1 ≤ (eu p q 16).1 := h 16 (by decide)
    have a18 : 2 * (eu p q 20).1 ≤ (eu p q 18).1 := h 18 (by decide)
    have e0 : (eu p q 0).1 ≤ q := (eu_r hp hq.1 0).2.2.2
    have e20 : 0 < (eu p q 20).1 := (eu_r hp hq.1 20).2.2.1
    omega
theorem sI {a b : Int} (h : a = b) : some (Value.int (iZ a)) = some (Value.int (iZ b)) := by rw [h]
/-- the number of terms of the continued fraction -/
noncomputable def ntm (p q : Int) : Int := fnd (fun k => (eu p q k).2 ≤ 0) 20
theorem cft_at {p q k a b : Int} (h : eu p q k = (a, b)) (hb : 0 < b) : cft p q (k + 1) = a / b := by
  unfold cft
  rw [show k + 1 - 1 = k by omega, h, if_pos hb]
theorem ntm_at {p q k : Int} (hk : 0 ≤ k ∧ k < 20) (h : fnd (fun k => (eu p q k).2 ≤ 0) k = -1) (h2 : (eu p q k).2 ≤ 0) : ntm p q = k := fnd_hit hk.1 h h2 hk.2
theorem fnd_none_lt {P : Int → Prop} {N : Int} (h : fnd P N = -1) {k : Int} (hk : 0 ≤ k) (h2 : k < N) : ¬ P k := by
  intro z
  rcases (show fnd P k = -1 ∨ ¬ fnd P k = -1 by omega) with q | q
  · have := fnd_hit hk q z h2; omega
  · have := fnd_keep hk rfl q (show k ≤ N by omega); omega
/-- the answer of continuedFractionTerm -/
def cftR (p q ix : Int) : Int := if cft p q ix = -1 then -3 else cft p q ix
theorem cft_pos {p q : Int} (hp : 0 ≤ p ∧ p ≤ q) (hq : 0 < q) {k : Int} (hk : 0 ≤ k) (h : 0 < (eu p q k).2) : 1 ≤ cft p q (k + 1) ∧ cft p q (k + 1) ≤ q := by
  have r := eu_r hp hq k.toNat
  rw [Int.toNat_of_nonneg hk] at r
  rw [cft_at (k := k) (a := (eu p q k).1) (b := (eu p q k).2) rfl h]
  have e1 : 1 ≤ (eu p q k).1 / (eu p q k).2 := by rw [Int.le_ediv_iff_mul_le h]; omega
  have e2 := Int.ediv_le_self (eu p q k).2 (show 0 ≤ (eu p q k).1 by omega)
  omega
/-- the first k letters of a mechanical word laid into a row -/
def lmX (nx : Int → Int) (p q c up n k : Int) : Int → Int := fun x => if 4 ≤ x ∧ x < 4 + k then mlt p q c up (x - 4) else up1 nx 3 n x
theorem lmX_0 (nx : Int → Int) (p q c up n : Int) : lmX nx p q c up n 0 = up1 nx 3 n := by
  funext x
  exact if_neg (by omega)
theorem lmX_s {nx : Int → Int} {p q c up n k : Int} (h : 0 ≤ k) : up1 (lmX nx p q c up n k) (4 + k) (mlt p q c up k) = lmX nx p q c up n (k + 1) := by
  funext x
  unfold up1 lmX
  by_cases z : x = 4 + k
  · subst z
    rw [if_pos rfl, if_pos (by omega), show 4 + k - 4 = k by omega]
  · rw [if_neg z]
    by_cases y : 4 ≤ x ∧ x < 4 + k
    · rw [if_pos y, if_pos (by omega)]
    · rw [if_neg y, if_neg (by omega)]
theorem mlt_r {p q c up n : Int} (hp : 0 ≤ p ∧ p ≤ q) (hq : 0 < q) : 0 ≤ mlt p q c up n ∧ mlt p q c up n ≤ 1 := by
  unfold mlt
  have key : ∀ y : Int, 0 ≤ (y + p) / q - y / q ∧ (y + p) / q - y / q ≤ 1 := by
    intro y
    have h1 : y / q ≤ (y + p) / q := Int.ediv_le_ediv hq (by omega)
    have h2 : (y + p) / q ≤ (y + q) / q := Int.ediv_le_ediv hq (by omega)
    rw [Int.add_ediv_of_dvd_right (Int.dvd_refl q), Int.ediv_self (by omega)] at h2
    omega
  exact key _
theorem tkX_ge {nx nw : Int → Int} {x : Int} (h : 3 ≤ x) : tkX nx nw x = nx x := by
  unfold tkX
  rw [up1_n (by omega), up1_n (by omega), up1_n (by omega)]
theorem tkX_lo {nx nw : Int → Int} {x : Int} (h : 0 ≤ x ∧ x < 3) : tkX nx nw x = nw x := by
  unfold tkX
  rcases (show x = 0 ∨ x = 1 ∨ x = 2 by omega) with rfl | rfl | rfl
  · rw [up1_n (by decide), up1_n (by decide), up1_s]
  · rw [up1_n (by decide), up1_s]
  · rw [up1_s]
theorem tkW_at {nx nw : Int → Int} {x : Int} (h : 0 ≤ x ∧ x < 64) : tkW nx nw x = tkX nx nw x := by
  unfold tkW cpy
  rw [if_pos (by omega), show 0 + (x - 0) = x by omega]
theorem tkW_ge {nx nw : Int → Int} {x : Int} (h : 3 ≤ x ∧ x < 64) : tkW nx nw x = nx x := by rw [tkW_at (by omega), tkX_ge h.1]
theorem tkW_lo {nx nw : Int → Int} {x : Int} (h : 0 ≤ x ∧ x < 3) : tkW nx nw x = nw x := by rw [tkW_at (by omega), tkX_lo h]
/-- the letters of a row, backwards, laid into another -/
def rvX (nx nw : Int → Int) (k : Int) : Int → Int := fun x => if 4 ≤ x ∧ x < 4 + k then nw (4 + nw 3 - 1 - (x - 4)) else up1 nx 3 (nw 3) x
theorem rvX_0 (nx nw : Int → Int) : rvX nx nw 0 = up1 nx 3 (nw 3) := by
  funext x
  exact if_neg (by omega)
theorem rvX_s {nx nw : Int → Int} {k : Int} (h : 0 ≤ k) : up1 (rvX nx nw k) (4 + k) (nw (4 + nw 3 - 1 - k)) = rvX nx nw (k + 1) := by
  funext x
  unfold up1 rvX
  by_cases z : x = 4 + k
  · subst z
    rw [if_pos rfl, if_pos (by omega), show 4 + k - 4 = k by omega]
  · rw [if_neg z]
    by_cases y : 4 ≤ x ∧ x < 4 + k
    · rw [if_pos y, if_pos (by omega)]
    · rw [if_neg y, if_neg (by omega)]
/-- the points of a rotation -/
def clP (pt : Int → Int) (k : Int) : Int → Int := fun x => if 0 ≤ x ∧ x < k then 0 else pt x
theorem clP_0 (pt : Int → Int) : clP pt 0 = pt := by
  funext x
  exact if_neg (by omega)
theorem clP_s {pt : Int → Int} {k : Int} (h : 0 ≤ k) : up1 (clP pt k) k 0 = clP pt (k + 1) := by
  funext x
  unfold up1 clP
  by_cases z : x = k
  · rw [if_pos z, if_pos (by omega)]
  · rw [if_neg z]
    by_cases y : 0 ≤ x ∧ x < k
    · rw [if_pos y, if_pos (by omega)]
    · rw [if_neg y, if_neg (by omega)]
def ptP (p q k x : Int) : Prop := ∃ j : Int, 0 ≤ j ∧ j < k ∧ x = j * p % q
noncomputable def lyP (pt : Int → Int) (p q k : Int) : Int → Int := fun x => @ite _ (ptP p q k x) (Classical.propDecidable _) 1 (clP pt q x)
theorem lyP_0 (pt : Int → Int) (p q : Int) : lyP pt p q 0 = clP pt q := by
  funext x
  exact if_neg (fun ⟨j, h⟩ => by omega)
theorem lyP_s {pt : Int → Int} {p q k : Int} (h : 0 ≤ k) : up1 (lyP pt p q k) (k * p % q) 1 = lyP pt p q (k + 1) := by
  funext x
  unfold up1 lyP
  by_cases z : x = k * p % q
  · rw [if_pos z, if_pos ⟨k, h, by omega, z⟩]
  · rw [if_neg z]
    by_cases y : ptP p q k x
    · obtain ⟨j, y1, y2, y3⟩ := y
      rw [if_pos ⟨j, y1, y2, y3⟩, if_pos ⟨j, y1, by omega, y3⟩]
    · rw [if_neg y, if_neg]
      rintro ⟨j, y1, y2, y3⟩
      rcases (show j < k ∨ j = k by omega) with g | g
      · exact y ⟨j, y1, g, y3⟩
      · rw [g] at y3; exact z y3
theorem ly_step (p q k : Int) : (k * p % q + p) % q = (k + 1) * p % q := by rw [Int.emod_add_emod, Int.add_mul, Int.one_mul]
theorem lyP_b {pt : Int → Int} {p q m : Int} (h : ∀ x, 0 ≤ x → x < 1000 → pt x = 0 ∨ pt x = 1) : ∀ x, 0 ≤ x → x < 1000 → lyP pt p q m x = 0 ∨ lyP pt p q m x = 1 := by
  intro x h1 h2
  unfold lyP
  by_cases y : ptP p q m x
  · rw [if_pos y]; exact Or.inr rfl
  · rw [if_neg y]
    unfold clP
    split
    · exact Or.inl rfl
    · exact h x h1 h2
/-- how many gaps have a size; whether one has; the sizes' list -/
noncomputable def gpN (p q m s : Int) : Int := cnt (fun k => ptP p q m k ∧ fnd (fun g => 1 ≤ g ∧ ptP p q m ((k + g) % q)) (q + 1) = s) q
def gpS (p q m s : Int) : Prop := 1 ≤ s ∧ 0 < gpN p q m s
noncomputable def gpR (p q m ix : Int) : Int := if ix < 0 then cnt (gpS p q m) (q + 1) else @ite _ (fnd (fun s => gpS p q m s ∧ cnt (gpS p q m) s = ix) (q + 1) = -1) (Classical.propDecidable _) (-3) (fnd (fun s => gpS p q m s ∧ cnt (gpS p q m) s = ix) (q + 1))
theorem lyP_p {pt : Int → Int} {p q m x : Int} (h : 0 ≤ x ∧ x < q) : ¬ lyP pt p q m x = 0 ↔ ptP p q m x := by
  unfold lyP
  by_cases y : ptP p q m x
  · rw [if_pos y]; simp [y]
  · rw [if_neg y]
    unfold clP
    rw [if_pos h]
    simp [y]
theorem gpN_e {pt : Int → Int} {p q m s : Int} (hq : 0 < q) : cnt (fun k => ¬ lyP pt p q m k = 0 ∧ nxg (lyP pt p q m) q k = s) q = gpN p q m s := by
  refine cnt_c (fun k h1 h2 => ?_)
  rw [lyP_p ⟨h1, h2⟩]
  unfold nxg
  rw [fnd_c (Q := fun g => 1 ≤ g ∧ ptP p q m ((k + g) % q)) (fun g _ _ => by rw [lyP_p ⟨Int.emod_nonneg _ (by omega), Int.emod_lt_of_pos _ hq⟩])]
theorem fnd_none_hit {P : Int → Prop} {N k : Int} (h : fnd P N = k) (hk : 0 ≤ k) (hN : 0 ≤ N) : P k := by
  have key : ∀ n : Nat, 0 ≤ fnd P n → P (fnd P n) := by
    intro n
    induction n with
    | zero => intro z; rw [fnd_0 (by omega)] at z; omega
    | succ n ih =>
      intro z
      rw [show ((n + 1 : Nat) : Int) = (n : Int) + 1 by omega, fnd_s (by omega)] at z ⊢
      by_cases y : fnd P n = -1 ∧ P n
      · rw [if_pos y]; exact y.2
      · rw [if_neg y] at z ⊢; exact ih z
  have := key N.toNat
  rw [Int.toNat_of_nonneg hN, h] at this
  exact this hk
theorem cft_none {p q ix : Int} (h : 0 ≤ ntm p q) (h2 : ntm p q < ix) : cft p q ix = -1 := by
  have h3 := fnd_none_hit (P := fun k => (eu p q k).2 ≤ 0) (N := 20) (k := ntm p q) rfl h (by decide)
  have hz : ¬ 0 < (eu p q (ix - 1)).2 := fun z => by
    rw [eu_z h h3 (show ntm p q ≤ ix - 1 by omega)] at z
    have h4 : (eu p q (ntm p q)).2 ≤ 0 := h3
    omega
  unfold cft
  rw [if_neg hz]
