/-! the class's and the reference's answers are the same -/
theorem RowIs.l {w : Int → Int} {b n : Int} (h : RowIs w b n) (hn : n ≤ 60) {j : Int} (h1 : 0 ≤ j) (h2 : j < n) : w (4 + j) = ltr b n j := h.2.2.2 j h1 h2 (by omega)
theorem RowIs.L {w : Int → Int} {b n : Int} (h : RowIs w b n) (hn : n ≤ 60) : ∀ x, 4 ≤ x → x < 4 + w 3 → 0 ≤ w x ∧ w x ≤ 1 := fun x h1 h2 => by
  have e := h.l hn (j := x - 4) (by omega) (by have := h.1; omega)
  rw [show 4 + (x - 4) = x by omega] at e
  have := ltr_r b n (x - 4)
  omega
theorem j_num {w : Int → Int} {b n : Int} (h : RowIs w b n) (hn : n ≤ 60) {a m : Int} (ha : 0 ≤ a) (hm : 0 ≤ m) (h2 : a + m ≤ n) : numS w a m = fct b n a m := by
  have key : ∀ k : Nat, (k : Int) ≤ m → numS w a k = fct b n a k := by
    intro k
    induction k with
    | zero => intro _; rw [show ((0 : Nat) : Int) = 0 from rfl, fct_0]; exact it_0 (Int.le_refl 0)
    | succ k ih =>
      intro hk
      rw [show ((k + 1 : Nat) : Int) = (k : Int) + 1 by omega, fct_s h.2.2.1.1 (by omega) (by omega), ← ih (by omega), ← h.l hn (by omega) (by omega), ← Int.add_assoc]
      exact it_s (by omega)
  have := key m.toNat (by omega)
  rwa [Int.toNat_of_nonneg hm] at this
theorem j_cmp {w : Int → Int} {b n : Int} (h : RowIs w b n) (hn : n ≤ 60) {x y m : Int} (hx : 0 ≤ x) (hy : 0 ≤ y) (hm : 0 ≤ m) (h2 : x + m ≤ n) (h3 : y + m ≤ n) : (cmpS w x y m = 0 ↔ fct b n x m = fct b n y m) ∧ (cmpS w x y m < 0 ↔ fct b n x m < fct b n y m) := by
  have key : ∀ k : Nat, (k : Int) ≤ m → (cmpS w x y k = 0 ↔ fct b n x k = fct b n y k) ∧ (cmpS w x y k < 0 ↔ fct b n x k < fct b n y k) := by
    intro k
    induction k with
    | zero => intro _; rw [show ((0 : Nat) : Int) = 0 from rfl, fct_0, fct_0, show cmpS w x y 0 = 0 from it_0 (Int.le_refl 0)]; omega
    | succ k ih =>
      intro hk
      have q := ih (by omega)
      have e1 := fct_s (b := b) (n := n) (st := x) (k := (k : Int)) h.2.2.1.1 (by omega) (by omega)
      have e2 := fct_s (b := b) (n := n) (st := y) (k := (k : Int)) h.2.2.1.1 (by omega) (by omega)
      have r1 := ltr_r b n (x + k)
      have r2 := ltr_r b n (y + k)
      rw [show ((k + 1 : Nat) : Int) = (k : Int) + 1 by omega, e1, e2]
      by_cases z : cmpS w x y k = 0
      · rw [cmpS_s (by omega) z, Int.add_assoc, Int.add_assoc, h.l hn (by omega) (by omega), h.l hn (by omega) (by omega)]
        have := q.1.mp z
        omega
      · rw [cmpS_k (i := (k : Int)) (by omega) z (by omega)]
        have z1 : ¬ fct b n x k = fct b n y k := fun y => z (q.1.mpr y)
        have z2 := q.2
        constructor
        · exact ⟨fun y => absurd y z, fun y => by omega⟩
        · rw [z2]; omega
  have := key m.toNat (by omega)
  rwa [Int.toNat_of_nonneg hm] at this
theorem pcN_s : ∀ (k b : Nat), b < 2 ^ k → pcN (k + 1) b = pcN k b
  | 0, b, h => by
    have : b = 0 := by omega
    subst this
    rfl
  | k + 1, b, h => by
    show ((b % 2 : Nat) : Int) + pcN (k + 1) (b / 2) = ((b % 2 : Nat) : Int) + pcN k (b / 2)
    rw [pcN_s k (b / 2) (by rw [Nat.pow_succ] at h; omega)]
theorem ons_s {x v : Int} (hx : 0 ≤ x ∧ x < 2305843009213693953) (hv : 0 ≤ v ∧ v ≤ 1) : ons (2 * x + v) = ons x + v := by
  obtain ⟨y, rfl⟩ : ∃ y : Nat, x = y := ⟨x.toNat, by omega⟩
  obtain ⟨u, rfl⟩ : ∃ y : Nat, v = y := ⟨v.toNat, by omega⟩
  unfold ons
  rw [show (2 * (y : Int) + (u : Int)).toNat = 2 * y + u by omega, show ((y : Int)).toNat = y by omega]
  have e := pcN_s 63 y (by omega)
  rw [e]
  show (((2 * y + u) % 2 : Nat) : Int) + pcN 63 ((2 * y + u) / 2) = _
  rw [show (2 * y + u) / 2 = y by omega, show (2 * y + u) % 2 = u by omega]
  omega
theorem j_sum {w : Int → Int} {b n : Int} (h : RowIs w b n) (hn : n ≤ 60) {a m : Int} (ha : 0 ≤ a) (hm : 0 ≤ m) (h2 : a + m ≤ n) : smW w a m = ons (fct b n a m) ∧ smW w a m ≤ m := by
  have key : ∀ k : Nat, (k : Int) ≤ m → smW w a k = ons (fct b n a k) ∧ smW w a k ≤ k := by
    intro k
    induction k with
    | zero => intro _; rw [show ((0 : Nat) : Int) = 0 from rfl, fct_0, show smW w a 0 = 0 from it_0 (Int.le_refl 0)]; exact ⟨rfl, Int.le_refl 0⟩
    | succ k ih =>
      intro hk
      have q := ih (by omega)
      have r1 := ltr_r b n (a + k)
      have r2 := fct_b (b := b) (n := n) (st := a) (ct := (k : Int)) (by omega)
      have e : smW w a ((k : Int) + 1) = smW w a k + w (4 + a + k) := it_s (by omega)
      rw [show ((k + 1 : Nat) : Int) = (k : Int) + 1 by omega, e, Int.add_assoc 4 a, h.l hn (by omega) (by omega), fct_s h.2.2.1.1 (by omega) (by omega), ons_s r2 (by omega), q.1]
      omega
  have := key m.toNat (by omega)
  rwa [Int.toNat_of_nonneg hm] at this
theorem j_fst {w : Int → Int} {b n : Int} (h : RowIs w b n) (hn : n ≤ 60) {x m : Int} (hx : 0 ≤ x) (hm : 0 ≤ m) (h2 : x + m ≤ n) : fstP w x m ↔ newP b n x m := by
  unfold fstP newP
  constructor
  · intro z k h3 h4 e
    exact z k h3 h4 ((j_cmp h hn h3 hx hm (by omega) h2).1.mpr e)
  · intro z k h3 h4 e
    exact z k h3 h4 ((j_cmp h hn h3 hx hm (by omega) h2).1.mp e)
theorem j_fcount {w : Int → Int} {b n : Int} (h : RowIs w b n) (hn : n ≤ 60) {ct : Int} (hc : 0 ≤ ct) : cnt (fun k => fstP w k ct) (w 3 - ct + 1) = cnt (fun k => newP b n k ct) (n - ct + 1) := by
  rw [h.1]
  exact cnt_c (fun k h1 h2 => j_fst h hn h1 hc (by omega))
/-- two factors are equal when their letters are -/
theorem fct_x {b n b2 n2 : Int} (hb : 0 ≤ b) (hb2 : 0 ≤ b2) {x y m : Int} (hm : 0 ≤ m) (h2 : x + m ≤ n) (h3 : y + m ≤ n2) : fct b n x m = fct b2 n2 y m ↔ ∀ k, 0 ≤ k → k < m → ltr b n (x + k) = ltr b2 n2 (y + k) := by
  have key : ∀ k : Nat, (k : Int) ≤ m → (fct b n x k = fct b2 n2 y k ↔ ∀ j, 0 ≤ j → j < (k : Int) → ltr b n (x + j) = ltr b2 n2 (y + j)) := by
    intro k
    induction k with
    | zero => intro _; rw [show ((0 : Nat) : Int) = 0 from rfl, fct_0, fct_0]; exact ⟨fun _ j h1 h2 => by omega, fun _ => rfl⟩
    | succ k ih =>
      intro hk
      have q := ih (by omega)
      have r1 := ltr_r b n (x + k)
      have r2 := ltr_r b2 n2 (y + k)
      rw [show ((k + 1 : Nat) : Int) = (k : Int) + 1 by omega, fct_s hb (by omega) (by omega), fct_s hb2 (by omega) (by omega)]
      constructor
      · intro e j h1 h2
        rcases (show j < k ∨ j = k by omega) with z | z
        · exact q.mp (by omega) j h1 z
        · rw [z]; omega
      · intro e
        have e1 := q.mpr (fun j h1 h2 => e j h1 (by omega))
        have e2 := e k (by omega) (by omega)
        omega
  have := key m.toNat (by omega)
  rwa [Int.toNat_of_nonneg hm] at this
theorem rvB_l {b n : Int} {j : Int} (hj : 0 ≤ j) (h2 : j < n) : ltr (rvB b n) n j = b / pw j % 2 := by
  have key : ∀ k : Nat, ∀ j : Int, 0 ≤ j → j < (k : Int) → ltr (rvB b k) k j = b / pw j % 2 := by
    intro k
    induction k with
    | zero => intro j h1 h2; omega
    | succ k ih =>
      intro j h1 h2
      have hr := rvB_r (b := b) k
      rw [show ((k + 1 : Nat) : Int) = (k : Int) + 1 by omega, rvB_s (by omega), Int.mul_comm]
      rcases (show j < k ∨ j = k by omega) with z | z
      · rw [sn_ltr hr.1 (by omega) ⟨h1, z⟩]; exact ih j h1 z
      · rw [z, sn_last (by omega)]
  have := key n.toNat j hj (by omega)
  rwa [Int.toNat_of_nonneg (show 0 ≤ n by omega)] at this
theorem rvB_ltr {b n : Int} {j : Int} (hj : 0 ≤ j) (h2 : j < n) : ltr (rvB b n) n j = ltr b n (n - 1 - j) := by
  rw [rvB_l hj h2, ltr_e, show n - (n - 1 - j) - 1 = j by omega]
theorem j_pal {w : Int → Int} {b n : Int} (h : RowIs w b n) (hn : n ≤ 60) {f m : Int} (hf : 0 ≤ f) (hm : 0 ≤ m) (h2 : f + m ≤ n) : palP w f m ↔ palC b n f m := by
  have hr := nat_r (P := fun k => 0 ≤ rvB b k ∧ rvB b k < pw k) (rvB_r (b := b)) h.2.1
  unfold palP palC
  rw [fct_x h.2.2.1.1 hr.1 hm h2 (by omega)]
  constructor
  · intro z k h3 h4
    rw [rvB_ltr (by omega) (by omega)]
    rcases (show k < m / 2 ∨ m - 1 - k < m / 2 ∨ m - 1 - k = k by omega) with y | y | y
    · have e := z k h3 y
      rw [Int.add_assoc, h.l hn (by omega) (by omega), show 4 + f + m - 1 - k = 4 + (f + m - 1 - k) by omega, h.l hn (by omega) (by omega)] at e
      rw [e]; congr 1; omega
    · have e := z (m - 1 - k) (by omega) y
      rw [Int.add_assoc, h.l hn (by omega) (by omega), show 4 + f + m - 1 - (m - 1 - k) = 4 + (f + k) by omega, h.l hn (by omega) (by omega)] at e
      rw [← e]; congr 1; omega
    · congr 1; omega
  · intro z k h3 h4
    have e := z k h3 (by omega)
    rw [rvB_ltr (by omega) (by omega)] at e
    rw [Int.add_assoc, h.l hn (by omega) (by omega), show 4 + f + m - 1 - k = 4 + (f + m - 1 - k) by omega, h.l hn (by omega) (by omega), e]
    congr 1; omega
theorem j_rev {w : Int → Int} {b n : Int} (h : RowIs w b n) (hn : n ≤ 60) : 1 - bv (palP w 0 (w 3)) = if rvB b n = b then 0 else 1 := by
  have hr := nat_r (P := fun k => 0 ≤ rvB b k ∧ rvB b k < pw k) (rvB_r (b := b)) h.2.1
  have e := j_pal h hn (f := 0) (m := n) (Int.le_refl 0) h.2.1 (by omega)
  unfold palC at e
  rw [show n - 0 - n = 0 by omega, fct_n h.2.2.1, fct_n hr] at e
  rw [h.1]
  by_cases z : rvB b n = b
  · rw [if_pos z, bv_t (e.mpr z.symm)]; rfl
  · rw [if_neg z, bv_f (fun y => z (e.mp y).symm)]; rfl
theorem j_per {w : Int → Int} {b n : Int} (h : RowIs w b n) (hn : n ≤ 60) {t : Int} (ht : 1 ≤ t) : perP w t ↔ (n < t ∨ fct b n 0 (n - t) = fct b n t (n - t)) := by
  unfold perP
  rw [h.1]
  rcases (show n < t ∨ t ≤ n by omega) with z | z
  · exact ⟨fun _ => Or.inl z, fun _ k h1 h2 => by omega⟩
  · rw [fct_x h.2.2.1.1 h.2.2.1.1 (by omega) (by omega) (by omega)]
    constructor
    · intro y
      refine Or.inr (fun k h1 h2 => ?_)
      have e := y k h1 (by omega)
      rw [h.l hn h1 (by omega), Int.add_assoc, h.l hn (by omega) (by omega)] at e
      rw [Int.zero_add, e, Int.add_comm t k]
    · rintro (y | y) k h1 h2
      · omega
      · have e := y k h1 (by omega)
        rw [Int.zero_add] at e
        rw [h.l hn h1 (by omega), Int.add_assoc, h.l hn (by omega) (by omega), e, Int.add_comm t k]
