/-! the simplest slope -/
theorem liL_is {f : Int → Int} {a q d : Int} (hd : 0 ≤ d) : ∀ N : Nat, liL f a q N ≤ d ↔ ∀ k, 0 ≤ k → k < (N : Int) → liX f a q k ≤ d
  | 0 => by
    rw [show liL f a q ((0 : Nat) : Int) = 0 from it_0 (Int.le_refl 0)]
    exact ⟨fun _ k h1 h2 => by omega, fun _ => hd⟩
  | N + 1 => by
    have q2 := liL_is (f := f) (a := a) (q := q) hd N
    have e := liL_s (f := f) (a := a) (q := q) (N := (N : Int)) (le := liL f a q N) (t := if liL f a q N < liX f a q N then liX f a q N else liL f a q N) (by omega) rfl (by split <;> omega)
    rw [show ((N + 1 : Nat) : Int) = (N : Int) + 1 by omega, ← e]
    constructor
    · intro z k h1 h2
      rcases (show k < N ∨ k = N by omega) with y | y
      · exact q2.mp (by split at z <;> omega) k h1 y
      · rw [y]; split at z <;> omega
    · intro z
      have z1 := q2.mpr (fun k h1 h2 => z k h1 (by omega))
      have z2 := z N (by omega) (by omega)
      split <;> omega
theorem liH_is {f : Int → Int} {a q d : Int} (hd : d ≤ q - 1) : ∀ N : Nat, d ≤ liH f a q N ↔ ∀ k, 0 ≤ k → k < (N : Int) → d ≤ liX f a q k + q - 1
  | 0 => by
    rw [show liH f a q ((0 : Nat) : Int) = q - 1 from it_0 (Int.le_refl 0)]
    exact ⟨fun _ k h1 h2 => by omega, fun _ => hd⟩
  | N + 1 => by
    have q2 := liH_is (f := f) (a := a) (q := q) hd N
    have e := liH_s (f := f) (a := a) (q := q) (N := (N : Int)) (mo := liH f a q N) (t := if liX f a q N + q - 1 < liH f a q N then liX f a q N + q - 1 else liH f a q N) (by omega) rfl (by split <;> omega)
    rw [show ((N + 1 : Nat) : Int) = (N : Int) + 1 by omega, ← e]
    constructor
    · intro z k h1 h2
      rcases (show k < N ∨ k = N by omega) with y | y
      · exact q2.mp (by split at z <;> omega) k h1 y
      · rw [y]; split at z <;> omega
    · intro z
      have z1 := q2.mpr (fun k h1 h2 => z k h1 (by omega))
      have z2 := z N (by omega) (by omega)
      split <;> omega
theorem beg_is {w : Int → Int} {b n : Int} (h : RowIs w b n) (hn : n ≤ 60) {a q d : Int} (hq : 0 < q) (hd : 0 ≤ d ∧ d < q) : begP w a q d ↔ liL (ltr b n) a q n ≤ d ∧ d ≤ liH (ltr b n) a q n := by
  have e1 := liL_is (f := ltr b n) (a := a) (q := q) hd.1 n.toNat
  have e2 := liH_is (f := ltr b n) (a := a) (q := q) (show d ≤ q - 1 by omega) n.toNat
  have h2 := h.2.1
  rw [Int.toNat_of_nonneg h2] at e1 e2
  rw [e1, e2]
  have hdiv : ∀ y z : Int, y / q = z ↔ z * q ≤ y ∧ y ≤ z * q + q - 1 := fun y z => by
    constructor
    · rintro rfl
      have := Int.emod_nonneg y (show q ≠ 0 by omega)
      have := Int.emod_lt_of_pos y hq
      have := Int.emod_add_mul_ediv y q
      rw [Int.mul_comm q] at this
      omega
    · rintro ⟨u, v⟩
      rw [show y = z * q + (y - z * q) by omega, Int.add_comm, Int.add_mul_ediv_right _ _ (by omega), Int.ediv_eq_zero_of_lt (by omega) (by omega)]
      omega
  unfold begP
  rw [h.1]
  have key : (∀ k, 0 ≤ k → k < n → ((k + 1) * a + d) / q - (k * a + d) / q = w (4 + k)) ↔ ∀ k, 0 ≤ k → k < n → ((k + 1) * a + d) / q = sm (ltr b n) (k + 1) := by
    constructor
    · intro z
      have all : ∀ k : Nat, (k : Int) ≤ n → ((k : Int) * a + d) / q = sm (ltr b n) k := by
        intro k
        induction k with
        | zero => intro _; rw [show ((0 : Nat) : Int) = 0 from rfl, sm_0, Int.zero_mul, Int.zero_add, Int.ediv_eq_zero_of_lt hd.1 hd.2]
        | succ k ih =>
          intro hk
          have u := z k (by omega) (by omega)
          rw [h.l hn (by omega) (by omega), ih (by omega)] at u
          rw [show ((k + 1 : Nat) : Int) = (k : Int) + 1 by omega, sm_s (by omega)]
          omega
      intro k h3 h4
      have := all (k + 1).toNat (by omega)
      rwa [Int.toNat_of_nonneg (show 0 ≤ k + 1 by omega)] at this
    · intro z k h3 h4
      rw [h.l hn h3 h4, z k h3 h4, sm_s h3]
      rcases (show k = 0 ∨ 1 ≤ k by omega) with y | y
      · rw [y, sm_0, Int.zero_mul, Int.zero_add, Int.zero_add, Int.ediv_eq_zero_of_lt hd.1 hd.2]; omega
      · have u := z (k - 1) (by omega) (by omega)
        rw [show k - 1 + 1 = k by omega] at u
        rw [u]; omega
  rw [key]
  unfold liX
  constructor
  · intro z
    exact ⟨fun k h3 h4 => by have := (hdiv _ _).mp (z k h3 h4); omega, fun k h3 h4 => by have := (hdiv _ _).mp (z k h3 h4); omega⟩
  · rintro ⟨z1, z2⟩ k h3 h4
    have y1 := z1 k h3 h4
    have y2 := z2 k h3 h4
    exact (hdiv _ _).mpr ⟨by omega, by omega⟩
theorem j_siD {w : Int → Int} {b n : Int} (h : RowIs w b n) (hn : n ≤ 60) {a q : Int} (hq : 1 ≤ q ∧ q ≤ 61) : siD w q a = if (Int.gcd a q : Int) = 1 then liR b n a q else -1 := by
  unfold siD
  by_cases g : (Int.gcd a q : Int) = 1
  · rw [if_pos g]
    have r := liR_r (b := b) (n := n) (a := a) (q := q) h.2.1 hq.1 hq.2
    unfold liR at r ⊢
    by_cases z : liH (ltr b n) a q n < liL (ltr b n) a q n
    · rw [if_pos z]
      exact fnd_none (fun d h1 h2 h3 => by have := (beg_is h hn (by omega) ⟨h1, h2⟩).mp h3.2; omega)
    · rw [if_neg z] at r ⊢
      have e0 : 0 ≤ liL (ltr b n) a q n := by
        have h1 := liL_m (f := ltr b n) (a := a) (q := q) (i := 0) (Int.le_refl 0) h.2.1
        rw [show liL (ltr b n) a q 0 = 0 from it_0 (Int.le_refl 0)] at h1
        exact h1
      refine fnd_hit e0 (fnd_none (fun d h1 h2 h3 => by have := (beg_is h hn (by omega) ⟨h1, by omega⟩).mp h3.2; omega)) ⟨g, (beg_is h hn (by omega) ⟨e0, r.2⟩).mpr ⟨Int.le_refl _, by omega⟩⟩ r.2
  · rw [if_neg g]
    exact fnd_none (fun d _ _ h3 => g h3.1)
theorem j_siA {w : Int → Int} {b n : Int} (h : RowIs w b n) (hn : n ≤ 60) {q : Int} (hq : 1 ≤ q ∧ q ≤ 61) : siA w q = ciA b n q := by
  unfold siA ciA
  refine fnd_c (fun a h1 h2 => ?_)
  rw [j_siD h hn hq]
  by_cases g : (Int.gcd a q : Int) = 1
  · rw [if_pos g]; exact ⟨fun z => ⟨z, g⟩, fun z => z.1⟩
  · rw [if_neg g]; exact ⟨fun z => absurd rfl z, fun z => absurd z.2 g⟩
theorem j_siB {w : Int → Int} {b n : Int} (h : RowIs w b n) (hn : n ≤ 60) : siB w = ciB b n := by
  unfold siB ciB
  refine fnd_c (fun q h1 h2 => ?_)
  constructor
  · rintro ⟨z1, z2⟩; rw [j_siA h hn ⟨z1, by omega⟩] at z2; exact ⟨z1, z2⟩
  · rintro ⟨z1, z2⟩; rw [← j_siA h hn ⟨z1, by omega⟩] at z2; exact ⟨z1, z2⟩
theorem j_si {w : Int → Int} {b n : Int} (h : RowIs w b n) (hn : n ≤ 60) {pa : Int} (hc : ¬ ciB b n = -1) : siR w pa = if pa = 0 then ciA b n (ciB b n) else if pa = 1 then ciB b n else liR b n (ciA b n (ciB b n)) (ciB b n) := by
  have z := fnd_in (P := fun q => 1 ≤ q ∧ ¬ ciA b n q = -1) (N := 62) hc
  have z1 : 1 ≤ ciB b n ∧ ciB b n ≤ 61 := ⟨z.2.2.1, by have : ciB b n < 62 := z.2.1; omega⟩
  have z2 : ¬ ciA b n (ciB b n) = -1 := z.2.2.2
  have z3 := fnd_in (P := fun a => ¬ liR b n a (ciB b n) = -1 ∧ (Int.gcd a (ciB b n) : Int) = 1) (N := ciB b n + 1) z2
  have z4 : (Int.gcd (ciA b n (ciB b n)) (ciB b n) : Int) = 1 := z3.2.2.2
  unfold siR
  rw [j_siB h hn, if_neg hc, j_siA h hn z1, j_siD h hn z1, if_pos z4]
theorem j_si_no {w : Int → Int} {b n : Int} (h : RowIs w b n) (hn : n ≤ 60) {pa : Int} (hc : ciB b n = -1) : siR w pa = -3 := by
  unfold siR
  rw [j_siB h hn, if_pos hc]
/-! the gaps -/
theorem j_gp {p q m z : Int} {gp : Int → Int} (hq : 0 < q ∧ q ≤ 1000) (hm : 1 ≤ m) (hz : 0 ≤ z ∧ z < 1001) : (ms p q m (flF gp 0 1001) q).2 z = gpN p q m z := by
  have e := ms_gp (p := p) (q := q) (m := m) (g0 := flF gp 0 1001) hq hm (fun z h1 h2 => if_pos ⟨h1, h2⟩) q.toNat (by omega)
  rw [Int.toNat_of_nonneg (show 0 ≤ q by omega)] at e
  have e2 := e.2.2.2.2 z hz.1 hz.2
  rw [e.2.2.1 rfl] at e2
  exact e2
theorem gpN_0 {p q m z : Int} (hz : q < z) : gpN p q m z = 0 := by
  unfold gpN
  rw [cnt_c (Q := fun _ => False) (fun k h1 h2 => ⟨fun y => ?_, fun y => y.elim⟩)]
  · rcases (show 0 ≤ q ∨ q < 0 by omega) with y | y
    · rw [cnt_ext (a := 0) (Int.le_refl 0) y (fun _ _ _ z => z), cnt_0 (Int.le_refl 0)]
    · rw [cnt_0 (by omega)]
  · have u := y.2
    have v : fnd (fun g => 1 ≤ g ∧ ptP p q m ((k + g) % q)) (q + 1) < q + 1 ∨ fnd (fun g => 1 ≤ g ∧ ptP p q m ((k + g) % q)) (q + 1) = -1 := nat_r (P := fun N => fnd (fun g => 1 ≤ g ∧ ptP p q m ((k + g) % q)) N < N ∨ fnd (fun g => 1 ≤ g ∧ ptP p q m ((k + g) % q)) N = -1) (fnd_lt (P := fun g => 1 ≤ g ∧ ptP p q m ((k + g) % q))) (by omega)
    omega
theorem j_gp1 {p q m : Int} {gp : Int → Int} (hq : 0 < q ∧ q ≤ 1000) (hm : 1 ≤ m) {N : Int} (hN : N ≤ 1001) : cnt (fun z => 1 ≤ z ∧ 0 < (ms p q m (flF gp 0 1001) q).2 z) N = cnt (gpS p q m) N := by
  refine cnt_c (fun k h1 h2 => ?_)
  rw [j_gp hq hm ⟨h1, by omega⟩]
  rfl
theorem j_gcount {p q m : Int} {gp : Int → Int} (hq : 0 < q ∧ q ≤ 1000) (hm : 1 ≤ m) : cnt (fun z => 1 ≤ z ∧ 0 < (ms p q m (flF gp 0 1001) q).2 z) 1001 = gpR p q m (-1) := by
  unfold gpR
  rw [if_pos (by decide), j_gp1 hq hm (Int.le_refl _)]
  exact cnt_ext (by omega) (by omega) (fun k h1 h2 h3 => by have := gpN_0 (p := p) (m := m) (show q < k by omega); have := h3.2; omega)
theorem fnd_ext {P : Int → Prop} {a b : Int} (ha : 0 ≤ a) (hab : a ≤ b) (h : ∀ k, a ≤ k → k < b → ¬ P k) : fnd P b = fnd P a := by
  obtain ⟨k, rfl⟩ : ∃ k : Nat, b = a + k := ⟨(b - a).toNat, by omega⟩
  induction k with
  | zero => simp
  | succ k ih =>
    rw [show a + ((k + 1 : Nat) : Int) = a + k + 1 by omega, fnd_s (by omega), if_neg (fun z => h _ (by omega) (by omega) z.2)]
    exact ih (by omega) (fun j h1 h2 => h j h1 (by omega))
theorem j_gsize {p q m ix : Int} {gp : Int → Int} (hq : 0 < q ∧ q ≤ 1000) (hm : 1 ≤ m) (hi : 0 ≤ ix) : (if fnd (fun z => (1 ≤ z ∧ 0 < (ms p q m (flF gp 0 1001) q).2 z) ∧ cnt (fun z => 1 ≤ z ∧ 0 < (ms p q m (flF gp 0 1001) q).2 z) z = ix) 1001 = -1 then -3 else fnd (fun z => (1 ≤ z ∧ 0 < (ms p q m (flF gp 0 1001) q).2 z) ∧ cnt (fun z => 1 ≤ z ∧ 0 < (ms p q m (flF gp 0 1001) q).2 z) z = ix) 1001) = gpR p q m ix := by
  have e : fnd (fun z => (1 ≤ z ∧ 0 < (ms p q m (flF gp 0 1001) q).2 z) ∧ cnt (fun z => 1 ≤ z ∧ 0 < (ms p q m (flF gp 0 1001) q).2 z) z = ix) 1001 = fnd (fun s => gpS p q m s ∧ cnt (gpS p q m) s = ix) (q + 1) := by
    rw [fnd_c (Q := fun s => gpS p q m s ∧ cnt (gpS p q m) s = ix) (fun k h1 h2 => by rw [j_gp1 hq hm (by omega), j_gp hq hm ⟨h1, h2⟩]; exact Iff.rfl)]
    exact fnd_ext (by omega) (by omega) (fun k h1 h2 h3 => by have := gpN_0 (p := p) (m := m) (show q < k by omega); have := h3.1.2; omega)
  rw [e]
  unfold gpR
  rw [if_neg (show ¬ ix < 0 by omega)]
  by_cases z : fnd (fun s => gpS p q m s ∧ cnt (gpS p q m) s = ix) (q + 1) = -1
  · rw [if_pos z, if_pos z]
  · rw [if_neg z, if_neg z]
theorem j_gof {p q m z : Int} {gp : Int → Int} (hq : 0 < q ∧ q ≤ 1000) (hm : 1 ≤ m) (hz : 1 ≤ z) : (if 0 ≤ z ∧ z < 1001 then (ms p q m (flF gp 0 1001) q).2 z else 0) = gpN p q m z := by
  split
  · rw [j_gp hq hm (by omega)]
  · rw [gpN_0 (by omega)]
/-! the rows behind the edits -/
theorem RowIs.cg {x y : Int → Int} {b n : Int} (h : RowIs x b n) (e : ∀ j, 3 ≤ j → j < 64 → y j = x j) : RowIs y b n := by
  obtain ⟨h1, h2, h3, h4⟩ := h
  exact ⟨by rw [e 3 (by omega) (by omega), h1], h2, h3, fun j j1 j2 j3 => by rw [e _ (by omega) (by omega), h4 j j1 j2 j3]⟩
theorem RowIs.tk {nx nw : Int → Int} {b n : Int} (h : RowIs nx b n) : RowIs (tkW nx nw) b n := h.cg (fun j h1 h2 => tkW_ge ⟨h1, h2⟩)
theorem j_rv {nx nw : Int → Int} {b n : Int} (h : RowIs nw b n) (hn : n ≤ 60) : RowIs (rvX nx nw (nw 3)) (rvB b n) n := by
  have hr := nat_r (P := fun k => 0 ≤ rvB b k ∧ rvB b k < pw k) (rvB_r (b := b)) h.2.1
  refine ⟨?_, h.2.1, hr, fun j j1 j2 j3 => ?_⟩
  · unfold rvX
    rw [if_neg (by omega), up1_s, h.1]
  · have h1 := h.1
    unfold rvX
    rw [if_pos (by omega), rvB_ltr j1 j2, show 4 + nw 3 - 1 - (4 + j - 4) = 4 + (n - 1 - j) by omega, h.l hn (by omega) (by omega)]
theorem mlB_l {p q c up k : Int} (hp : 0 ≤ p ∧ p ≤ q) (hq : 0 < q) {j : Int} (hj : 0 ≤ j) (h2 : j < k) : ltr (mlB p q c up k) k j = mlt p q c up j := by
  have key : ∀ k : Nat, ∀ j : Int, 0 ≤ j → j < (k : Int) → ltr (mlB p q c up k) k j = mlt p q c up j := by
    intro k
    induction k with
    | zero => intro j h1 h2; omega
    | succ k ih =>
      intro j h1 h2
      have hr := mlB_r (c := c) (up := up) hp hq k
      have hm := mlt_r (c := c) (up := up) (n := (k : Int)) hp hq
      rw [show ((k + 1 : Nat) : Int) = (k : Int) + 1 by omega, mlB_s (by omega), Int.mul_comm]
      rcases (show j < k ∨ j = k by omega) with z | z
      · rw [sn_ltr hr.1 (by omega) ⟨h1, z⟩]; exact ih j h1 z
      · rw [z, sn_last (by omega)]
  have := key k.toNat j hj (by omega)
  rwa [Int.toNat_of_nonneg (show 0 ≤ k by omega)] at this
theorem j_lm {nx : Int → Int} {p q c up k : Int} (hp : 0 ≤ p ∧ p ≤ q) (hq : 0 < q) (hk : 0 ≤ k) : RowIs (lmX nx p q c up k k) (mlB p q c up k) k := by
  refine ⟨?_, hk, nat_r (P := fun k => 0 ≤ mlB p q c up k ∧ mlB p q c up k < pw k) (mlB_r hp hq) hk, fun j j1 j2 j3 => ?_⟩
  · unfold lmX
    rw [if_neg (by omega), up1_s]
  · unfold lmX
    rw [if_pos (by omega), mlB_l hp hq j1 j2, show 4 + j - 4 = j by omega]
theorem j_w {w : Int → Int} {b n : Int} (h : RowIs w b n) (hn : n ≤ 60) : smW w 0 (w 3) = ons b := by
  rw [h.1, (j_sum h hn (Int.le_refl 0) h.2.1 (by omega)).1, fct_n h.2.2.1]
theorem j_ap {w : Int → Int} {b n v : Int} (h : RowIs w b n) (hn : n < 60) (hv : 0 ≤ v ∧ v ≤ 1) : RowIs (up1 (up1 w (4 + w 3) v) 3 (w 3 + 1)) (2 * b + v) (n + 1) := by
  have e := h.sn hv
  unfold apX at e
  rwa [if_pos (show w 3 < 60 by rw [h.1]; exact hn)] at e
theorem j_rl {w : Int → Int} {b n : Int} (h : RowIs w b n) (hn : 0 < n ∧ n ≤ 60) : RowIs (up1 w 3 (w 3 - 1)) (b / 2) (n - 1) := by
  have hb := h.2.2.1
  rw [show n = (n - 1) + 1 by omega, pw_s (by omega)] at hb
  refine ⟨by rw [up1_s, h.1], by omega, by omega, fun j j1 j2 j3 => ?_⟩
  rw [up1_n (by omega), h.l hn.2 j1 (by omega), ltr_e, ltr_e, show n - j - 1 = (n - 1 - j - 1) + 1 by omega, pw_s (by omega), ← dd (by omega) (by decide) (Int.le_of_lt (pw_pos _))]
