theorem j_least {w : Int → Int} {b n : Int} (h : RowIs w b n) (hn : n ≤ 60) : fnd (fun t => 1 ≤ t ∧ perP w t) (w 3 + 1) = fnd (fun t => 1 ≤ t ∧ (n < t ∨ fct b n 0 (n - t) = fct b n t (n - t))) (n + 1) := by
  rw [h.1]
  refine fnd_c (fun k h1 h2 => ?_)
  constructor
  · rintro ⟨z1, z2⟩; exact ⟨z1, (j_per h hn z1).mp z2⟩
  · rintro ⟨z1, z2⟩; exact ⟨z1, (j_per h hn z1).mpr z2⟩
theorem j_central {w : Int → Int} {b n : Int} (h : RowIs w b n) (hn : n ≤ 60) : bv (∃ t : Int, t < w 3 + 2 ∧ (1 ≤ t ∧ (Int.gcd t (w 3 + 2 - t) : Int) = 1 ∧ perP w t ∧ perP w (w 3 + 2 - t))) = bv (∃ t : Int, t < n + 2 ∧ (1 ≤ t ∧ (Int.gcd t (n + 2 - t) : Int) = 1 ∧ (n < t ∨ fct b n 0 (n - t) = fct b n t (n - t)) ∧ (n < (n + 2 - t) ∨ fct b n 0 (n - (n + 2 - t)) = fct b n (n + 2 - t) (n - (n + 2 - t))))) := by
  rw [h.1]
  refine bv_c ?_
  constructor
  · rintro ⟨t, a1, a2, a3, a4, a5⟩
    exact ⟨t, a1, a2, a3, (j_per h hn a2).mp a4, (j_per h hn (by omega)).mp a5⟩
  · rintro ⟨t, a1, a2, a3, a4, a5⟩
    exact ⟨t, a1, a2, a3, (j_per h hn a2).mpr a4, (j_per h hn (by omega)).mpr a5⟩
theorem it_c {α : Type} {f g : Int → α → α} {a : α} {N : Int} (h : ∀ k x, 0 ≤ k → k < N → f k x = g k x) : it f a N = it g a N := by
  have key : ∀ k : Nat, (k : Int) ≤ N → itN f a k = itN g a k := by
    intro k
    induction k with
    | zero => intro _; rfl
    | succ k ih =>
      intro hk
      show f k _ = g k _
      rw [ih (by omega), h k _ (by omega) (by omega)]
  unfold it
  rcases Int.lt_or_le N 0 with q | q
  · rw [show N.toNat = 0 by omega]; rfl
  · exact key _ (by omega)
theorem j_mx {w : Int → Int} {b n : Int} (h : RowIs w b n) (hn : n ≤ 60) {m N : Int} (hm : 0 ≤ m) (hN : N ≤ n - m + 1) : mxW w m N = mxC (fun a => ons (fct b n a m)) N :=
  it_c (fun k x h1 h2 => by rw [(j_sum h hn h1 hm (by omega)).1])
theorem mn_2 {f : Int → Int} {c c2 : Int} (h1 : f 0 ≤ c) (h2 : f 0 ≤ c2) : ∀ k : Nat, mnC f c ((k : Int) + 1) = mnC f c2 ((k : Int) + 1)
  | 0 => by
    rw [show mnC f c (((0 : Nat) : Int) + 1) = if f 0 < c then f 0 else c from rfl, show mnC f c2 (((0 : Nat) : Int) + 1) = if f 0 < c2 then f 0 else c2 from rfl]
    split <;> split <;> omega
  | k + 1 => by
    have q := mn_2 (f := f) h1 h2 k
    have e := fun c => (it_s (f := fun a r => if f a < r then f a else r) (a := c) (N := (k : Int) + 1) (by omega))
    show mnC f c ((((k + 1 : Nat)) : Int) + 1) = mnC f c2 _
    rw [show ((k + 1 : Nat) : Int) = (k : Int) + 1 by omega]
    show it _ c _ = it _ c2 _
    rw [e c, e c2]
    show (if f _ < mnC f c _ then _ else mnC f c _) = _
    rw [q]
    rfl
theorem j_mn {w : Int → Int} {b n : Int} (h : RowIs w b n) (hn : n ≤ 60) {m N : Int} (hm : 0 ≤ m ∧ m ≤ n) (hN : 1 ≤ N ∧ N ≤ n - m + 1) : mnW w m N = mnC (fun a => ons (fct b n a m)) m N := by
  have e1 : mnW w m N = mnC (fun a => ons (fct b n a m)) 60 N := it_c (fun k x h1 h2 => by rw [(j_sum h hn h1 hm.1 (by omega)).1])
  have q := j_sum h hn (a := 0) (m := m) (Int.le_refl 0) hm.1 (by omega)
  rw [e1]
  have e2 := mn_2 (f := fun a => ons (fct b n a m)) (c := 60) (c2 := m) (by show ons _ ≤ _; omega) (by show ons _ ≤ _; omega) (N - 1).toNat
  rwa [show ((N - 1).toNat : Int) + 1 = N by omega] at e2
theorem j_unb {w : Int → Int} {b n : Int} (h : RowIs w b n) (hn : n ≤ 60) : fnd (fun f => 1 ≤ f ∧ 1 < mxW w f (w 3 - f + 1) - mnW w f (w 3 - f + 1)) (w 3 + 1) = fnd (fun f => 1 ≤ f ∧ 2 ≤ mxC (fun a => ons (fct b n a f)) (n - f + 1) - mnC (fun a => ons (fct b n a f)) f (n - f + 1)) (n + 1) := by
  rw [h.1]
  refine fnd_c (fun k h1 h2 => ?_)
  rw [j_mx h hn h1 (Int.le_refl _), j_mn h hn (by omega) (by omega)]
  omega
theorem sm_c {f g : Int → Int} {N : Int} (h : ∀ k, 0 ≤ k → k < N → f k = g k) : sm f N = sm g N := it_c (fun k x h1 h2 => by rw [h k h1 h2])
theorem j_pcount {w : Int → Int} {b n : Int} (h : RowIs w b n) (hn : n ≤ 60) : sm (fun f => cnt (fun k => palP w k (f + 1) ∧ fstP w k (f + 1)) (w 3 - f)) (w 3) = sm (fun f => cnt (fun k => palC b n k (f + 1) ∧ newP b n k (f + 1)) (n - f)) n := by
  rw [h.1]
  refine sm_c (fun f h1 h2 => cnt_c (fun k h3 h4 => ?_))
  rw [j_pal h hn h3 (by omega) (by omega), j_fst h hn h3 (by omega) (by omega)]
theorem j_lpal {w : Int → Int} {b n : Int} (h : RowIs w b n) (hn : n ≤ 60) : fnd (fun k => palP w 0 (w 3 - k)) (w 3 + 1) = fnd (fun k => palC b n 0 (n - k)) (n + 1) := by
  rw [h.1]
  exact fnd_c (fun k h1 h2 => j_pal h hn (Int.le_refl 0) (by omega) (by omega))
/-! the factors in order -/
theorem cnt_mono {P Q : Int → Prop} {N : Int} (h : ∀ k, 0 ≤ k → k < N → P k → Q k) : cnt P N ≤ cnt Q N := by
  have key : ∀ k : Nat, (k : Int) ≤ N → cntN P k ≤ cntN Q k := by
    intro k
    induction k with
    | zero => intro _; exact Int.le_refl 0
    | succ k ih =>
      intro hk
      have q := ih (by omega)
      show cntN P k + bv _ ≤ cntN Q k + bv _
      by_cases z : P (k : Int)
      · rw [bv_t z, bv_t (h k (by omega) (by omega) z)]; omega
      · have := bv_r (Q (k : Int)); rw [bv_f z]; omega
  unfold cnt
  rcases Int.lt_or_le N 0 with q | q
  · rw [show N.toNat = 0 by omega]; exact Int.le_refl 0
  · exact key _ (by omega)
theorem cnt_or {P Q R : Int → Prop} {N : Int} (h : ∀ k, 0 ≤ k → k < N → (R k ↔ P k ∨ Q k)) (h2 : ∀ k, 0 ≤ k → k < N → P k → ¬ Q k) : cnt R N = cnt P N + cnt Q N := by
  have key : ∀ k : Nat, (k : Int) ≤ N → cntN R k = cntN P k + cntN Q k := by
    intro k
    induction k with
    | zero => intro _; rfl
    | succ k ih =>
      intro hk
      have q := ih (by omega)
      have a1 := h k (by omega) (by omega)
      have a2 := h2 k (by omega) (by omega)
      show cntN R k + bv _ = cntN P k + bv _ + (cntN Q k + bv _)
      by_cases z : P (k : Int)
      · rw [bv_t z, bv_f (a2 z), bv_t (a1.mpr (Or.inl z))]; omega
      · by_cases y : Q (k : Int)
        · rw [bv_f z, bv_t y, bv_t (a1.mpr (Or.inr y))]; omega
        · rw [bv_f z, bv_f y, bv_f (fun u => (a1.mp u).elim z y)]; omega
  unfold cnt
  rcases Int.lt_or_le N 0 with q | q
  · rw [show N.toNat = 0 by omega]; rfl
  · exact key _ (by omega)
theorem cnt_one {P : Int → Prop} {N x : Int} (hx : 0 ≤ x ∧ x < N) (h : P x) (h2 : ∀ k, 0 ≤ k → k < N → P k → k = x) : cnt P N = 1 := by
  rw [cnt_ext (a := x + 1) (by omega) (by omega) (fun k h3 h4 h5 => by have := h2 k (by omega) h4 h5; omega), cnt_t hx.1 h, cnt_ext (a := 0) (Int.le_refl 0) hx.1 (fun k h3 h4 h5 => by have := h2 k h3 (by omega) h5; omega), cnt_0 (Int.le_refl 0)]
  rfl
/-- the numbers f of the first N, each where it comes first; how many are below v -/
def nwF (f : Int → Int) (x : Int) : Prop := ∀ k, 0 ≤ k → k < x → f k ≠ f x
noncomputable def rkF (f : Int → Int) (N v : Int) : Int := cnt (fun k => nwF f k ∧ f k < v) N
theorem nw_ex {f : Int → Int} : ∀ x : Nat, ∃ y, 0 ≤ y ∧ y ≤ (x : Int) ∧ f y = f x ∧ nwF f y := by
  intro x
  induction x using Nat.strongRecOn with
  | _ x ih =>
    by_cases z : nwF f x
    · exact ⟨x, by omega, by omega, rfl, z⟩
    · unfold nwF at z
      obtain ⟨k, hk⟩ := Classical.not_forall.mp z
      obtain ⟨h1, hk⟩ := Classical.not_imp.mp hk
      obtain ⟨h2, hk⟩ := Classical.not_imp.mp hk
      obtain ⟨y, y1, y2, y3, y4⟩ := ih k.toNat (by omega)
      rw [Int.toNat_of_nonneg h1] at y2 y3
      exact ⟨y, y1, by omega, y3.trans (Classical.not_not.mp hk), y4⟩
theorem rk_lt {f : Int → Int} {N x v : Int} (hx : 0 ≤ x ∧ x < N) (h : f x < v) : rkF f N (f x) + 1 ≤ rkF f N v := by
  obtain ⟨y, y1, y2, y3, y4⟩ := nw_ex (f := f) x.toNat
  rw [Int.toNat_of_nonneg hx.1] at y2 y3
  have e1 : cnt (fun k => nwF f k ∧ f k = f x) N = 1 := cnt_one (x := y) (by omega) ⟨y4, y3⟩ (fun k h1 h2 h3 => by
    rcases (show k < y ∨ y < k ∨ k = y by omega) with q | q | q
    · exact absurd (h3.2.trans y3.symm) (y4 k h1 q)
    · exact absurd (y3.trans h3.2.symm) (h3.1 y y1 q)
    · exact q)
  have e2 : cnt (fun k => nwF f k ∧ f k ≤ f x) N = rkF f N (f x) + 1 := by
    rw [← e1]
    refine cnt_or (fun k _ _ => ?_) (fun k _ _ z1 z2 => ?_)
    · constructor
      · rintro ⟨a, c⟩
        rcases (show f k < f x ∨ f k = f x by omega) with q | q
        · exact Or.inl ⟨a, q⟩
        · exact Or.inr ⟨a, q⟩
      · rintro (⟨a, c⟩ | ⟨a, c⟩)
        · exact ⟨a, by omega⟩
        · exact ⟨a, by omega⟩
    · have := z1.2; have := z2.2; omega
  rw [← e2]
  exact cnt_mono (fun k _ _ z => ⟨z.1, by have := z.2; omega⟩)
theorem rk_eq {f : Int → Int} {N x v : Int} (hx : 0 ≤ x ∧ x < N) (h : f x < v) (h2 : ∀ k, 0 ≤ k → k < N → ¬ (f x < f k ∧ f k < v)) : rkF f N v = rkF f N (f x) + 1 := by
  obtain ⟨y, y1, y2, y3, y4⟩ := nw_ex (f := f) x.toNat
  rw [Int.toNat_of_nonneg hx.1] at y2 y3
  have e1 : cnt (fun k => nwF f k ∧ f k = f x) N = 1 := cnt_one (x := y) (by omega) ⟨y4, y3⟩ (fun k h1 h2 h3 => by
    rcases (show k < y ∨ y < k ∨ k = y by omega) with q | q | q
    · exact absurd (h3.2.trans y3.symm) (y4 k h1 q)
    · exact absurd (y3.trans h3.2.symm) (h3.1 y y1 q)
    · exact q)
  rw [← e1]
  refine cnt_or (fun k h3 h4 => ?_) (fun k _ _ z1 z2 => ?_)
  · have := h2 k h3 h4
    constructor
    · rintro ⟨a, c⟩
      rcases (show f k < f x ∨ f k = f x by omega) with q | q
      · exact Or.inl ⟨a, q⟩
      · exact Or.inr ⟨a, q⟩
    · rintro (⟨a, c⟩ | ⟨a, c⟩)
      · exact ⟨a, by omega⟩
      · exact ⟨a, by omega⟩
  · have := z1.2; have := z2.2; omega
theorem nxt_is {f : Int → Int} {a : Int} (hf : ∀ k, 0 ≤ f k) : ∀ N : Nat, (nxt f a N = -1 ∧ ∀ k, 0 ≤ k → k < (N : Int) → f k ≤ a) ∨ (a < nxt f a N ∧ 0 ≤ nxt f a N ∧ (∃ x, 0 ≤ x ∧ x < (N : Int) ∧ f x = nxt f a N) ∧ ∀ k, 0 ≤ k → k < (N : Int) → ¬ (a < f k ∧ f k < nxt f a N))
  | 0 => Or.inl ⟨it_0 (Int.le_refl 0), fun k h1 h2 => by omega⟩
  | N + 1 => by
    have q := nxt_is (a := a) hf N
    have hfN := hf N
    have e : nxt f a ((N : Int) + 1) = @ite _ (a < f N ∧ (nxt f a N = -1 ∨ f N < nxt f a N)) (Classical.propDecidable _) (f N) (nxt f a N) := it_s (by omega)
    rw [show ((N + 1 : Nat) : Int) = (N : Int) + 1 by omega, e]
    by_cases z : a < f N ∧ (nxt f a N = -1 ∨ f N < nxt f a N)
    · rw [if_pos z]
      refine Or.inr ⟨z.1, hfN, ⟨N, by omega, by omega, rfl⟩, fun k h1 h2 h3 => ?_⟩
      rcases (show k < N ∨ k = N by omega) with y | y
      · rcases q with ⟨q1, q2⟩ | ⟨q1, q2, q3, q4⟩
        · have := q2 k h1 y; omega
        · have := q4 k h1 y; omega
      · rw [y] at h3; omega
    · rw [if_neg z]
      rcases q with ⟨q1, q2⟩ | ⟨q1, q2, ⟨x, x1, x2, x3⟩, q4⟩
      · refine Or.inl ⟨q1, fun k h1 h2 => ?_⟩
        rcases (show k < N ∨ k = N by omega) with y | y
        · exact q2 k h1 y
        · rw [y]
          rcases (show a < f N ∨ f N ≤ a by omega) with u | u
          · exact absurd ⟨u, Or.inl q1⟩ z
          · exact u
      · refine Or.inr ⟨q1, q2, ⟨x, x1, by omega, x3⟩, fun k h1 h2 => ?_⟩
        rcases (show k < N ∨ k = N by omega) with y | y
        · exact q4 k h1 y
        · rw [y]; exact fun u => z ⟨u.1, Or.inr u.2⟩
theorem lst_is {f : Int → Int} {N : Int} (hf : ∀ k, 0 ≤ f k) : ∀ i : Nat, (lstF f N i = -1 ∧ ∀ x, 0 ≤ x → x < N → rkF f N (f x) < i) ∨ (∃ x, 0 ≤ x ∧ x < N ∧ lstF f N i = f x ∧ rkF f N (f x) = i) := by
  have hx := fun a => nxt_is (a := a) hf N.toNat
  have hN0 : ∀ k : Int, 0 ≤ k → (k < (N.toNat : Int) ↔ k < N) := fun k hk => by omega
  have hNx : ∀ a, nxt f a ((N.toNat : Nat) : Int) = nxt f a N := fun a => by
    rcases (show 0 ≤ N ∨ N < 0 by omega) with q | q
    · rw [Int.toNat_of_nonneg q]
    · rw [show N.toNat = 0 by omega, show nxt f a ((0 : Nat) : Int) = -1 from it_0 (Int.le_refl 0), show nxt f a N = -1 from it_0 (by omega)]
  intro i
  induction i with
  | zero =>
    have e : lstF f N ((0 : Nat) : Int) = nxt f (-1) N := it_0 (Int.le_refl 0)
    rw [e]
    have q := hx (-1)
    rw [hNx] at q
    rcases q with ⟨q1, q2⟩ | ⟨q1, q2, ⟨x, x1, x2, x3⟩, q4⟩
    · exact Or.inl ⟨q1, fun x h1 h2 => by have := q2 x h1 ((hN0 x h1).mpr h2); have := hf x; omega⟩
    · refine Or.inr ⟨x, x1, (hN0 x x1).mp x2, x3.symm, ?_⟩
      unfold rkF
      rw [cnt_c (Q := fun _ => False) (fun k h1 h2 => ⟨fun z => q4 k h1 ((hN0 k h1).mpr h2) ⟨by have := hf k; omega, by rw [← x3]; exact z.2⟩, fun z => z.elim⟩)]
      rcases (show 0 ≤ N ∨ N < 0 by omega) with q | q
      · rw [cnt_ext (a := 0) (Int.le_refl 0) q (fun _ _ _ z => z), cnt_0 (Int.le_refl 0)]; rfl
      · rw [cnt_0 (by omega)]; rfl
  | succ i ih =>
    have e : lstF f N ((i : Int) + 1) = @ite _ (lstF f N i = -1) (Classical.propDecidable _) (-1) (nxt f (lstF f N i) N) := it_s (by omega)
    rw [show ((i + 1 : Nat) : Int) = (i : Int) + 1 by omega, e]
    rcases ih with ⟨q1, q2⟩ | ⟨x, x1, x2, x3, x4⟩
    · rw [if_pos q1]
      exact Or.inl ⟨rfl, fun x h1 h2 => by have := q2 x h1 h2; omega⟩
    · have hfx := hf x
      rw [if_neg (by omega), x3]
      have q := hx (f x)
      rw [hNx] at q
      rcases q with ⟨q1, q2⟩ | ⟨q1, q2, ⟨y, y1, y2, y3⟩, q4⟩
      · refine Or.inl ⟨q1, fun y h1 h2 => ?_⟩
        have h3 := q2 y h1 ((hN0 y h1).mpr h2)
        rcases (show f y = f x ∨ f y < f x by omega) with u | u
        · rw [u]; omega
        · have := rk_lt ⟨h1, h2⟩ u; omega
      · refine Or.inr ⟨y, y1, (hN0 y y1).mp y2, y3.symm, ?_⟩
        rw [y3, rk_eq ⟨x1, x2⟩ q1 (fun k h1 h2 => q4 k h1 ((hN0 k h1).mpr h2)), x4]
theorem fnd_in {P : Int → Prop} {N : Int} (h : ¬ fnd P N = -1) : 0 ≤ fnd P N ∧ fnd P N < N ∧ P (fnd P N) := by
  rcases (show 0 ≤ N ∨ N < 0 by omega) with q | q
  · have h1 : -1 ≤ fnd P N := nat_r (P := fun N => -1 ≤ fnd P N) (fnd_ge (P := P)) q
    have h2 : fnd P N < N ∨ fnd P N = -1 := nat_r (P := fun N => fnd P N < N ∨ fnd P N = -1) (fnd_lt (P := P)) q
    exact ⟨by omega, by omega, fnd_none_hit (P := P) (N := N) rfl (by omega) q⟩
  · exact absurd (fnd_0 (by omega)) h
theorem j_fat {w : Int → Int} {b n : Int} (h : RowIs w b n) (hn : n ≤ 60) {ct ix : Int} (hc : 1 ≤ ct) (hi : 0 ≤ ix) : (if fnd (fun x => cnt (fun k => fstP w k ct ∧ cmpS w k x ct < 0) (w 3 - ct + 1) = ix) (w 3 - ct + 1) = -1 then -3 else numS w (fnd (fun x => cnt (fun k => fstP w k ct ∧ cmpS w k x ct < 0) (w 3 - ct + 1) = ix) (w 3 - ct + 1)) ct) = (if (if n ≤ ix then -1 else lstF (fun k => fct b n k ct) (n - ct + 1) ix) = -1 then -3 else (if n ≤ ix then -1 else lstF (fun k => fct b n k ct) (n - ct + 1) ix)) := by
  rw [h.1]
  have hfc : fnd (fun x => cnt (fun k => fstP w k ct ∧ cmpS w k x ct < 0) (n - ct + 1) = ix) (n - ct + 1) = fnd (fun x => rkF (fun k => fct b n k ct) (n - ct + 1) (fct b n x ct) = ix) (n - ct + 1) := by
    refine fnd_c (fun x h1 h2 => ?_)
    rw [show cnt (fun k => fstP w k ct ∧ cmpS w k x ct < 0) (n - ct + 1) = rkF (fun k => fct b n k ct) (n - ct + 1) (fct b n x ct) from cnt_c (fun k h3 h4 => ?_)]
    rw [j_fst h hn h3 (by omega) (by omega), (j_cmp h hn h3 h1 (by omega) (by omega) (by omega)).2]
    rfl
  rw [hfc]
  have hls := lst_is (f := fun k => fct b n k ct) (N := n - ct + 1) (fun k => (fct_r b n k ct).1) ix.toNat
  rw [Int.toNat_of_nonneg hi] at hls
  by_cases z : fnd (fun x => rkF (fun k => fct b n k ct) (n - ct + 1) (fct b n x ct) = ix) (n - ct + 1) = -1
  · rw [if_pos z]
    have e : lstF (fun k => fct b n k ct) (n - ct + 1) ix = -1 := by
      rcases hls with ⟨q, -⟩ | ⟨x, x1, x2, x3, x4⟩
      · exact q
      · exact absurd x4 (fnd_none_lt z x1 x2)
    rw [e]
    split <;> rfl
  · rw [if_neg z]
    obtain ⟨z1, z2, z3⟩ := fnd_in z
    generalize fnd (fun x => rkF (fun k => fct b n k ct) (n - ct + 1) (fct b n x ct) = ix) (n - ct + 1) = y at z1 z2 z3 ⊢
    have hlt : ix < n - ct + 1 := by
      have u := rk_lt (f := fun k => fct b n k ct) (N := n - ct + 1) (x := y) (v := fct b n y ct + 1) ⟨z1, z2⟩ (by show fct b n y ct < _; omega)
      have u2 := (cnt_le (P := fun k => nwF (fun k => fct b n k ct) k ∧ fct b n k ct < fct b n y ct + 1) (N := n - ct + 1) (by omega)).2
      have u3 : rkF (fun k => fct b n k ct) (n - ct + 1) (fct b n y ct + 1) ≤ n - ct + 1 := u2
      have u4 : rkF (fun k => fct b n k ct) (n - ct + 1) (fct b n y ct) + 1 ≤ rkF (fun k => fct b n k ct) (n - ct + 1) (fct b n y ct + 1) := u
      omega
    rw [if_neg (show ¬ n ≤ ix by omega), j_num h hn z1 (by omega) (by omega)]
    rcases hls with ⟨q, q2⟩ | ⟨x, x1, x2, x3, x4⟩
    · have := q2 y z1 z2
      have : rkF (fun k => fct b n k ct) (n - ct + 1) (fct b n y ct) < ix := this
      omega
    · have x4 : rkF (fun k => fct b n k ct) (n - ct + 1) (fct b n x ct) = ix := x4
      have x3 : lstF (fun k => fct b n k ct) (n - ct + 1) ix = fct b n x ct := x3
      have r := fct_r b n x ct
      rw [x3, if_neg (by omega)]
      rcases (show fct b n y ct < fct b n x ct ∨ fct b n x ct < fct b n y ct ∨ fct b n y ct = fct b n x ct by omega) with u | u | u
      · have := rk_lt (f := fun k => fct b n k ct) (N := n - ct + 1) ⟨z1, z2⟩ u
        have : rkF (fun k => fct b n k ct) (n - ct + 1) (fct b n y ct) + 1 ≤ rkF (fun k => fct b n k ct) (n - ct + 1) (fct b n x ct) := this
        omega
      · have := rk_lt (f := fun k => fct b n k ct) (N := n - ct + 1) ⟨x1, x2⟩ u
        have : rkF (fun k => fct b n k ct) (n - ct + 1) (fct b n x ct) + 1 ≤ rkF (fun k => fct b n k ct) (n - ct + 1) (fct b n y ct) := this
        omega
      · exact u
