/-! what the class answers -/
def mnC (f : Int → Int) (c N : Int) : Int := it (fun a r => if f a < r then f a else r) c N
def mxC (f : Int → Int) (N : Int) : Int := it (fun a r => if r < f a then f a else r) 0 N
theorem mnC_s {f : Int → Int} {c N le t : Int} (h : 0 ≤ N) (e : le = mnC f c N) (ht : f N < le ∧ t = f N ∨ le ≤ f N ∧ t = le) : t = mnC f c (N + 1) := by
  rw [show mnC f c (N + 1) = _ from it_s (f := fun a r => if f a < r then f a else r) h]
  show t = if f N < mnC f c N then f N else mnC f c N
  rw [← e]
  rcases ht with ⟨q, rfl⟩ | ⟨q, rfl⟩
  · rw [if_pos q]
  · rw [if_neg (by omega)]
theorem mxC_s {f : Int → Int} {N mo t : Int} (h : 0 ≤ N) (e : mo = mxC f N) (ht : mo < f N ∧ t = f N ∨ f N ≤ mo ∧ t = mo) : t = mxC f (N + 1) := by
  rw [show mxC f (N + 1) = _ from it_s (f := fun a r => if r < f a then f a else r) h]
  show t = if mxC f N < f N then f N else mxC f N
  rw [← e]
  rcases ht with ⟨q, rfl⟩ | ⟨q, rfl⟩
  · rw [if_pos q]
  · rw [if_neg (by omega)]
/-- the interval of the intercepts -/
def liX (f : Int → Int) (a q k : Int) : Int := sm f (k + 1) * q - (k + 1) * a
def liL (f : Int → Int) (a q N : Int) : Int := it (fun k r => if r < liX f a q k then liX f a q k else r) 0 N
def liH (f : Int → Int) (a q N : Int) : Int := it (fun k r => if liX f a q k + q - 1 < r then liX f a q k + q - 1 else r) (q - 1) N
theorem liL_s {f : Int → Int} {a q N le t : Int} (h : 0 ≤ N) (e : le = liL f a q N) (ht : le < liX f a q N ∧ t = liX f a q N ∨ liX f a q N ≤ le ∧ t = le) : t = liL f a q (N + 1) := by
  rw [show liL f a q (N + 1) = _ from it_s (f := fun k r => if r < liX f a q k then liX f a q k else r) h]
  show t = if liL f a q N < liX f a q N then liX f a q N else liL f a q N
  rw [← e]
  rcases ht with ⟨q, rfl⟩ | ⟨q, rfl⟩
  · rw [if_pos q]
  · rw [if_neg (by omega)]
theorem liH_s {f : Int → Int} {a q N mo t : Int} (h : 0 ≤ N) (e : mo = liH f a q N) (ht : liX f a q N + q - 1 < mo ∧ t = liX f a q N + q - 1 ∨ mo ≤ liX f a q N + q - 1 ∧ t = mo) : t = liH f a q (N + 1) := by
  rw [show liH f a q (N + 1) = _ from it_s (f := fun k r => if liX f a q k + q - 1 < r then liX f a q k + q - 1 else r) h]
  show t = if liX f a q N + q - 1 < liH f a q N then liX f a q N + q - 1 else liH f a q N
  rw [← e]
  rcases ht with ⟨q, rfl⟩ | ⟨q, rfl⟩
  · rw [if_pos q]
  · rw [if_neg (by omega)]
theorem liL_m {f : Int → Int} {a q i : Int} (hi : 0 ≤ i) {j : Int} (hj : i ≤ j) : liL f a q i ≤ liL f a q j := by
  obtain ⟨k, rfl⟩ : ∃ k : Nat, j = i + k := ⟨(j - i).toNat, by omega⟩
  induction k with
  | zero => simp
  | succ k ih =>
    have e := liL_s (f := f) (a := a) (q := q) (N := i + k) (le := liL f a q (i + k)) (t := if liL f a q (i + k) < liX f a q (i + k) then liX f a q (i + k) else liL f a q (i + k)) (by omega) rfl (by split <;> omega)
    rw [show i + ((k + 1 : Nat) : Int) = i + k + 1 by omega, ← e]
    have := ih (by omega)
    split <;> omega
theorem liH_m {f : Int → Int} {a q i : Int} (hi : 0 ≤ i) {j : Int} (hj : i ≤ j) : liH f a q j ≤ liH f a q i := by
  obtain ⟨k, rfl⟩ : ∃ k : Nat, j = i + k := ⟨(j - i).toNat, by omega⟩
  induction k with
  | zero => simp
  | succ k ih =>
    have e := liH_s (f := f) (a := a) (q := q) (N := i + k) (mo := liH f a q (i + k)) (t := if liX f a q (i + k) + q - 1 < liH f a q (i + k) then liX f a q (i + k) + q - 1 else liH f a q (i + k)) (by omega) rfl (by split <;> omega)
    rw [show i + ((k + 1 : Nat) : Int) = i + k + 1 by omega, ← e]
    have := ih (by omega)
    split <;> omega
def liR (b n a q : Int) : Int := if liH (ltr b n) a q n < liL (ltr b n) a q n then -1 else liL (ltr b n) a q n
/-- the class's simplest slope -/
noncomputable def ciA (b n q : Int) : Int := fnd (fun a => ¬ liR b n a q = -1 ∧ (Int.gcd a q : Int) = 1) (q + 1)
noncomputable def ciB (b n : Int) : Int := fnd (fun q => 1 ≤ q ∧ ¬ ciA b n q = -1) 62
/-- a word backwards -/
def rvB (b : Int) (k : Int) : Int := it (fun j r => r * 2 + b / pw j % 2) 0 k
theorem rvB_s {b k : Int} (h : 0 ≤ k) : rvB b (k + 1) = rvB b k * 2 + b / pw k % 2 := it_s h
theorem rvB_r {b : Int} : ∀ k : Nat, 0 ≤ rvB b k ∧ rvB b k < pw k
  | 0 => ⟨Int.le_refl 0, by show (0 : Int) < 1; decide⟩
  | k + 1 => by
    have h := rvB_r (b := b) k
    rw [show ((k + 1 : Nat) : Int) = (k : Int) + 1 by omega, rvB_s (by omega), pw_s (by omega)]
    omega
theorem pw_61 {k : Int} (h : k ≤ 60) : pw k ≤ 1152921504606846976 := by
  rw [pw_cast]
  have := Nat.pow_le_pow_right (n := 2) (by decide) (show k.toNat ≤ 60 by omega)
  have e : (2 : Nat) ^ 60 = 1152921504606846976 := by decide +kernel
  omega
/-- the first letters of a mechanical word as a number -/
def mlB (p q c up k : Int) : Int := it (fun j r => r * 2 + mlt p q c up j) 0 k
theorem mlB_s {p q c up k : Int} (h : 0 ≤ k) : mlB p q c up (k + 1) = mlB p q c up k * 2 + mlt p q c up k := it_s h
theorem mlB_r {p q c up : Int} (hp : 0 ≤ p ∧ p ≤ q) (hq : 0 < q) : ∀ k : Nat, 0 ≤ mlB p q c up k ∧ mlB p q c up k < pw k
  | 0 => ⟨Int.le_refl 0, by show (0 : Int) < 1; decide⟩
  | k + 1 => by
    have h := mlB_r (c := c) (up := up) hp hq k
    have h2 := mlt_r (c := c) (up := up) (n := (k : Int)) hp hq
    rw [show ((k + 1 : Nat) : Int) = (k : Int) + 1 by omega, mlB_s (by omega), pw_s (by omega)]
    omega
theorem nat_r {P : Int → Prop} (h : ∀ k : Nat, P k) {k : Int} (hk : 0 ≤ k) : P k := by
  have := h k.toNat
  rwa [Int.toNat_of_nonneg hk] at this
theorem cat_r {a na b nb : Int} (hna : 0 ≤ na) (hnb : 0 ≤ nb) (ha : 0 ≤ a ∧ a < pw na) (hb : 0 ≤ b ∧ b < pw nb) : 0 ≤ a * pw nb + b ∧ a * pw nb + b < pw (na + nb) := by
  have hp := pw_pos nb
  have h1 : 0 ≤ a * pw nb := Int.mul_nonneg ha.1 (Int.le_of_lt hp)
  have h2 : (a + 1) * pw nb ≤ pw na * pw nb := Int.mul_le_mul_of_nonneg_right (by omega) (Int.le_of_lt hp)
  rw [Int.add_mul, Int.one_mul, ← pw_add hna hnb] at h2
  omega
theorem rpB_r {a na : Int} (hna : 0 ≤ na) (ha : 0 ≤ a ∧ a < pw na) : ∀ t : Nat, 0 ≤ rpB a na t ∧ rpB a na t < pw (na * t)
  | 0 => by rw [show ((0 : Nat) : Int) = 0 from rfl, rpB_0, Int.mul_zero, pw_0]; omega
  | t + 1 => by
    have h := rpB_r hna ha t
    rw [show ((t + 1 : Nat) : Int) = (t : Int) + 1 by omega, rpB_s (by omega), Int.mul_add, Int.mul_one]
    exact cat_r (Int.mul_nonneg hna (by omega)) hna h ha
theorem mxC_b {f : Int → Int} {N : Int} (h : ∀ k, 0 ≤ f k ∧ f k ≤ 64) : 0 ≤ mxC f N ∧ mxC f N ≤ 64 := by
  have key : ∀ k : Nat, 0 ≤ itN (fun a r => if r < f a then f a else r) 0 k ∧ itN (fun a r => if r < f a then f a else r) 0 k ≤ 64 := by
    intro k
    induction k with
    | zero => exact ⟨Int.le_refl 0, by show (0 : Int) ≤ 64; decide⟩
    | succ k ih =>
      have := h k
      show 0 ≤ (if _ < f k then f k else _) ∧ (if _ < f k then f k else _) ≤ 64
      split
      · exact this
      · exact ih
  exact key _
theorem mnC_b {f : Int → Int} {c N : Int} (hc : 0 ≤ c) (h : ∀ k, 0 ≤ f k ∧ f k ≤ 64) : 0 ≤ mnC f c N ∧ mnC f c N ≤ c := by
  have key : ∀ k : Nat, 0 ≤ itN (fun a r => if f a < r then f a else r) c k ∧ itN (fun a r => if f a < r then f a else r) c k ≤ c := by
    intro k
    induction k with
    | zero => exact ⟨hc, Int.le_refl c⟩
    | succ k ih =>
      have := h k
      show 0 ≤ (if f k < _ then f k else _) ∧ (if f k < _ then f k else _) ≤ c
      split
      · omega
      · exact ih
  exact key _
theorem lstF_b {f : Int → Int} {N M : Int} (hM : -1 < M) (h : ∀ k, 0 ≤ f k ∧ f k < M) {i : Int} (hi : 0 ≤ i) : -1 ≤ lstF f N i ∧ lstF f N i < M := by
  refine nat_r (P := fun i => -1 ≤ lstF f N i ∧ lstF f N i < M) (fun k => ?_) hi
  induction k with
  | zero =>
    rw [show lstF f N ((0 : Nat) : Int) = nxt f (-1) N from it_0 (Int.le_refl 0)]
    exact nxt_b hM h
  | succ k ih =>
    by_cases z : lstF f N k = -1
    · rw [lstF_m (i := (k : Int)) (by omega) z (by omega)]; omega
    · rw [show ((k + 1 : Nat) : Int) = (k : Int) + 1 by omega, ← lst_step (by omega) rfl z]
      exact nxt_b hM h
theorem cft_r {p q ix : Int} (hp : 0 ≤ p ∧ p ≤ q) (hq : 0 < q) (hi : 1 ≤ ix) : -1 ≤ cft p q ix ∧ cft p q ix ≤ q ∧ ¬ cft p q ix = 0 := by
  by_cases z : 0 < (eu p q (ix - 1)).2
  · have := cft_pos hp hq (k := ix - 1) (by omega) z
    rw [show ix - 1 + 1 = ix by omega] at this
    omega
  · have : cft p q ix = -1 := by unfold cft; rw [if_neg z]
    omega
