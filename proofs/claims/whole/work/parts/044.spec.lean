/-! what the methods answer, as functions of whole numbers -/
def zf (f : Int → Int) : Nat → Int32 := fun j => iZ (f (j : Int))
def up1 (f : Int → Int) (k v : Int) : Int → Int := fun j => if j = k then v else f j
theorem up1_s {f : Int → Int} {k v : Int} : up1 f k v k = v := if_pos rfl
theorem up1_n {f : Int → Int} {k v j : Int} (h : j ≠ k) : up1 f k v j = f j := if_neg h
theorem zf_at {f : Int → Int} {k : Int} (h : 0 ≤ k ∧ k < 2147483648) : zf f (iZ k).toNatClampNeg = iZ (f k) := by
  rw [iZ_cl h.1 h.2]
  show iZ (f ((k.toNat : Nat) : Int)) = _
  rw [Int.toNat_of_nonneg h.1]
theorem zf_up {f : Int → Int} {k v : Int} (h : 0 ≤ k ∧ k < 2147483648) : upd (zf f) (iZ k).toNatClampNeg (iZ v) = zf (up1 f k v) := by
  rw [iZ_cl h.1 h.2]
  funext j
  show (if j = k.toNat then iZ v else iZ (f j)) = iZ (if (j : Int) = k then v else f j)
  by_cases q : j = k.toNat
  · rw [if_pos q, if_pos (by omega)]
  · rw [if_neg q, if_neg (by omega)]
/-- a count below N -/
noncomputable def cntN (P : Int → Prop) : Nat → Int
  | 0 => 0
  | k + 1 => cntN P k + bv (P (k : Int))
noncomputable def cnt (P : Int → Prop) (N : Int) : Int := cntN P N.toNat
theorem cnt_0 {P : Int → Prop} {N : Int} (h : N ≤ 0) : cnt P N = 0 := by
  unfold cnt
  rw [show N.toNat = 0 by omega]
  rfl
theorem cnt_s {P : Int → Prop} {N : Int} (h : 0 ≤ N) : cnt P (N + 1) = cnt P N + bv (P N) := by
  unfold cnt
  rw [show (N + 1).toNat = N.toNat + 1 by omega]
  show cntN P N.toNat + bv (P ((N.toNat : Nat) : Int)) = _
  rw [Int.toNat_of_nonneg h]
theorem cnt_t {P : Int → Prop} {N : Int} (h : 0 ≤ N) (q : P N) : cnt P (N + 1) = cnt P N + 1 := by rw [cnt_s h, bv_t q]
theorem cnt_f {P : Int → Prop} {N : Int} (h : 0 ≤ N) (q : ¬ P N) : cnt P (N + 1) = cnt P N := by rw [cnt_s h, bv_f q, Int.add_zero]
theorem cntN_le (P : Int → Prop) : ∀ k : Nat, 0 ≤ cntN P k ∧ cntN P k ≤ k
  | 0 => ⟨Int.le_refl 0, Int.le_refl 0⟩
  | k + 1 => by
    have h := cntN_le P k
    have q := bv_r (P (k : Int))
    show 0 ≤ cntN P k + _ ∧ cntN P k + _ ≤ _
    omega
theorem cnt_le {P : Int → Prop} {N : Int} (h : 0 ≤ N) : 0 ≤ cnt P N ∧ cnt P N ≤ N := by
  have := cntN_le P N.toNat
  unfold cnt
  omega
theorem cnt_c {P Q : Int → Prop} {N : Int} (h : ∀ k, 0 ≤ k → k < N → (P k ↔ Q k)) : cnt P N = cnt Q N := by
  have key : ∀ k : Nat, (k : Int) ≤ N → cntN P k = cntN Q k := by
    intro k
    induction k with
    | zero => intro _; rfl
    | succ k ih =>
      intro hk
      show cntN P k + _ = cntN Q k + _
      rw [ih (by omega), bv_c (h k (by omega) (by omega))]
  unfold cnt
  rcases Int.lt_or_le N 0 with q | q
  · rw [show N.toNat = 0 by omega]; rfl
  · exact key _ (by omega)
/-- a recursion below N -/
def itN {α : Type} (f : Int → α → α) (a : α) : Nat → α
  | 0 => a
  | k + 1 => f (k : Int) (itN f a k)
def it {α : Type} (f : Int → α → α) (a : α) (N : Int) : α := itN f a N.toNat
theorem it_0 {α : Type} {f : Int → α → α} {a : α} {N : Int} (h : N ≤ 0) : it f a N = a := by
  unfold it
  rw [show N.toNat = 0 by omega]
  rfl
theorem it_s {α : Type} {f : Int → α → α} {a : α} {N : Int} (h : 0 ≤ N) : it f a (N + 1) = f N (it f a N) := by
  unfold it
  rw [show (N + 1).toNat = N.toNat + 1 by omega]
  show f ((N.toNat : Nat) : Int) _ = _
  rw [Int.toNat_of_nonneg h]
/-- the factor of ct letters from st on of the word b of n letters, as a number -/
def fct (b n st ct : Int) : Int := b / pw (n - st - ct) % pw ct
def ltr (b n j : Int) : Int := fct b n j 1
theorem fct_r (b n st ct : Int) : 0 ≤ fct b n st ct ∧ fct b n st ct < pw ct := ⟨Int.emod_nonneg _ (by have := pw_pos ct; omega), Int.emod_lt_of_pos _ (pw_pos ct)⟩
theorem fct_b {b n st ct : Int} (h : ct ≤ 61) : 0 ≤ fct b n st ct ∧ fct b n st ct < 2305843009213693953 := by
  have h1 := fct_r b n st ct
  have h2 := pw_62 h
  omega
theorem ltr_r (b n j : Int) : 0 ≤ ltr b n j ∧ ltr b n j < 2 := fct_r b n j 1
def newP (b n st ct : Int) : Prop := ∀ k : Int, 0 ≤ k → k < st → fct b n k ct ≠ fct b n st ct
/-- the number of the ones of a number's binary digits -/
def pcN : Nat → Nat → Int
  | 0, _ => 0
  | k + 1, b => (b % 2 : Nat) + pcN k (b / 2)
def ons (b : Int) : Int := pcN 64 b.toNat
theorem pcN_r : ∀ (k b : Nat), 0 ≤ pcN k b ∧ pcN k b ≤ k
  | 0, _ => ⟨Int.le_refl 0, Int.le_refl 0⟩
  | k + 1, b => by
    have := pcN_r k (b / 2)
    show 0 ≤ ((b % 2 : Nat) : Int) + _ ∧ ((b % 2 : Nat) : Int) + _ ≤ _
    omega
theorem ons_r (b : Int) : 0 ≤ ons b ∧ ons b ≤ 64 := pcN_r 64 _
/-- the least of the first N numbers f above a; -1 if there is none -/
noncomputable def nxt (f : Int → Int) (a N : Int) : Int := it (fun k r => @ite _ (a < f k ∧ (r = -1 ∨ f k < r)) (Classical.propDecidable _) (f k) r) (-1) N
/-- the i-th of them in order -/
noncomputable def lstF (f : Int → Int) (N i : Int) : Int := it (fun _ r => @ite _ (r = -1) (Classical.propDecidable _) (-1) (nxt f r N)) (nxt f (-1) N) i
theorem lstF_m {f : Int → Int} {N i : Int} (hi : 0 ≤ i) (h : lstF f N i = -1) {j : Int} (hj : i ≤ j) : lstF f N j = -1 := by
  obtain ⟨k, rfl⟩ : ∃ k : Nat, j = i + k := ⟨(j - i).toNat, by omega⟩
  induction k with
  | zero => simpa using h
  | succ k ih =>
    have e : lstF f N (i + k + 1) = @ite _ (lstF f N (i + k) = -1) (Classical.propDecidable _) (-1) (nxt f (lstF f N (i + k)) N) := it_s (by omega)
    rw [show i + ((k + 1 : Nat) : Int) = i + k + 1 by omega, e, if_pos (ih (by omega))]
/-- Euclid's steps on dividend and divisor -/
def euS (x : Int × Int) : Int × Int := if x.2 ≤ 0 then x else (x.2, x.1 % x.2)
def eu (p q k : Int) : Int × Int := it (fun _ x => euS x) (q, p) k
theorem eu_0 (p q : Int) : eu p q 0 = (q, p) := it_0 (Int.le_refl 0)
theorem eu_s {p q k : Int} (h : 0 ≤ k) : eu p q (k + 1) = euS (eu p q k) := it_s h
theorem eu_p {p q k : Int} (h : 0 ≤ k) (q2 : 0 < (eu p q k).2) : eu p q (k + 1) = ((eu p q k).2, (eu p q k).1 % (eu p q k).2) := by
  rw [eu_s h]
  unfold euS
  rw [if_neg (by omega)]
theorem eu_z {p q k : Int} (h : 0 ≤ k) (q2 : (eu p q k).2 ≤ 0) {j : Int} (hj : k ≤ j) : eu p q j = eu p q k := by
  obtain ⟨i, rfl⟩ : ∃ i : Nat, j = k + i := ⟨(j - k).toNat, by omega⟩
  induction i with
  | zero => simp
  | succ i ih =>
    rw [show k + ((i + 1 : Nat) : Int) = k + i + 1 by omega, eu_s (by omega), ih (by omega)]
    unfold euS
    rw [if_pos q2]
/-- the term of the continued fraction, from 1 on; -1 if there is none -/
def cft (p q i : Int) : Int := if 0 < (eu p q (i - 1)).2 then (eu p q (i - 1)).1 / (eu p q (i - 1)).2 else -1
theorem sub_mul_div (a b : Int) : a - a / b * b = a % b := by rw [Int.emod_def, Int.mul_comm b]
/-- the letter n of a mechanical word -/
def mlt (p q c up n : Int) : Int := (n * p + c + (if up = 0 then 0 else q - 1) + p) / q - (n * p + c + (if up = 0 then 0 else q - 1)) / q
/-- the interval of intercepts -/
def sm (f : Int → Int) (N : Int) : Int := it (fun k r => r + f k) 0 N
theorem sm_0 (f : Int → Int) : sm f 0 = 0 := it_0 (Int.le_refl 0)
theorem sm_s {f : Int → Int} {N : Int} (h : 0 ≤ N) : sm f (N + 1) = sm f N + f N := it_s h
def lilo (f : Int → Int) (a q N : Int) : Int := it (fun k r => max r (sm f (k + 1) * q - (k + 1) * a)) 0 N
def lihi (f : Int → Int) (a q N : Int) : Int := it (fun k r => min r (sm f (k + 1) * q - (k + 1) * a + q - 1)) (q - 1) N
theorem cd_step {la sm : Int} (h1 : 0 ≤ la) (h2 : 0 ≤ sm) : Int.gcd (la % sm) sm = Int.gcd sm la := by
  obtain ⟨x, rfl⟩ : ∃ x : Nat, la = x := ⟨la.toNat, by omega⟩
  obtain ⟨y, rfl⟩ : ∃ y : Nat, sm = y := ⟨sm.toNat, by omega⟩
  show Nat.gcd (x % y) y = Nat.gcd y x
  exact (Nat.gcd_rec y x).symm
theorem cd_0 {la : Int} (h : 0 ≤ la) : ((Int.gcd 0 la : Nat) : Int) = la := by
  obtain ⟨x, rfl⟩ : ∃ x : Nat, la = x := ⟨la.toNat, by omega⟩
  show ((Nat.gcd 0 x : Nat) : Int) = x
  rw [Nat.gcd_zero_left]
theorem cd_r {a d : Int} (hd : 0 < d) : 0 < ((Int.gcd a d : Nat) : Int) ∧ ((Int.gcd a d : Nat) : Int) ≤ d := by
  have h1 : 0 < Int.gcd a d := Nat.pos_of_ne_zero (fun h => by have := (Int.gcd_eq_zero_iff.mp h).2; omega)
  have h2 : ((Int.gcd a d : Nat) : Int) ≤ d := Int.le_of_dvd hd (Int.gcd_dvd_right ..)
  omega
theorem nxt_step {f : Int → Int} {a i le le2 : Int} (hi : 0 ≤ i) (h : le = nxt f a i) (h2 : (a < f i ∧ (le = -1 ∨ f i < le) ∧ le2 = f i) ∨ (¬ (a < f i ∧ (le = -1 ∨ f i < le)) ∧ le2 = le)) : le2 = nxt f a (i + 1) := by
  have e : nxt f a (i + 1) = @ite _ (a < f i ∧ (nxt f a i = -1 ∨ f i < nxt f a i)) (Classical.propDecidable _) (f i) (nxt f a i) := it_s hi
  rw [e, ← h]
  rcases h2 with ⟨q1, q2, q3⟩ | ⟨q1, q2⟩
  · rw [if_pos ⟨q1, q2⟩, q3]
  · rw [if_neg q1, q2]
theorem nxt_b {f : Int → Int} {a N M : Int} (hM : -1 < M) (h : ∀ k, 0 ≤ f k ∧ f k < M) : -1 ≤ nxt f a N ∧ nxt f a N < M := by
  have key : ∀ k : Nat, -1 ≤ itN (fun k r => @ite _ (a < f k ∧ (r = -1 ∨ f k < r)) (Classical.propDecidable _) (f k) r) (-1) k ∧ itN (fun k r => @ite _ (a < f k ∧ (r = -1 ∨ f k < r)) (Classical.propDecidable _) (f k) r) (-1) k < M := by
    intro k
    induction k with
    | zero => exact ⟨Int.le_refl _, hM⟩
    | succ k ih =>
      have := h k
      show -1 ≤ @ite Int _ (Classical.propDecidable _) (f k) _ ∧ @ite Int _ (Classical.propDecidable _) (f k) _ < M
      split
      · omega
      · exact ih
  exact key _
theorem lst_step {f : Int → Int} {N i fa : Int} (hi : 0 ≤ i) (h : fa = lstF f N i) (h2 : ¬ fa = -1) : nxt f fa N = lstF f N (i + 1) := by
  have e : lstF f N (i + 1) = @ite _ (lstF f N i = -1) (Classical.propDecidable _) (-1) (nxt f (lstF f N i) N) := it_s hi
  rw [e, ← h, if_neg h2]
