/-! the class's circle -/
noncomputable def lyC (pt : Int → Int) (p q k : Int) : Int → Int := fun x => @ite _ (ptP p q k x) (Classical.propDecidable _) 1 (clP pt 1000 x)
theorem lyC_0 (pt : Int → Int) (p q : Int) : lyC pt p q 0 = clP pt 1000 := by
  funext x
  exact if_neg (fun ⟨j, h⟩ => by omega)
theorem lyC_s {pt : Int → Int} {p q k : Int} (h : 0 ≤ k) : up1 (lyC pt p q k) (k * p % q) 1 = lyC pt p q (k + 1) := by
  funext x
  unfold up1 lyC
  by_cases z : x = k * p % q
  · rw [if_pos z, if_pos ⟨k, h, by omega, z⟩]
  · rw [if_neg z]
    by_cases y : ptP p q k x
    · obtain ⟨j, y1, y2, y3⟩ := y
      rw [if_pos ⟨j, y1, y2, y3⟩, if_pos ⟨j, y1, by omega, y3⟩]
    · rw [if_neg y, if_neg]
      rintro ⟨j, y1, y2, y3⟩
      rcases (show j < k ∨ j = k by omega) with g | g
      · exact y ⟨j, y1, g, y3⟩
      · rw [g] at y3; exact z y3
theorem lyC_p {pt : Int → Int} {p q m x : Int} (h : 0 ≤ x ∧ x < 1000) : (lyC pt p q m x = 0 ∨ lyC pt p q m x = 1) ∧ (¬ lyC pt p q m x = 0 ↔ ptP p q m x) := by
  unfold lyC
  by_cases y : ptP p q m x
  · rw [if_pos y]; simp [y]
  · rw [if_neg y]
    unfold clP
    rw [if_pos h]
    simp [y]
theorem ly_add {p q k x : Int} (hp : 0 ≤ p ∧ p ≤ q) (hq : 0 < q) (hx : x = k * p % q) : (x + p < q → x + p = (k + 1) * p % q) ∧ (q ≤ x + p → x + p - q = (k + 1) * p % q) := by
  have e1 := Int.emod_nonneg (k * p) (show q ≠ 0 by omega)
  have e2 := Int.emod_lt_of_pos (k * p) hq
  rw [← ly_step, ← hx]
  rw [← hx] at e1 e2
  constructor
  · intro h; rw [Int.emod_eq_of_lt (by omega) h]
  · intro h
    have e3 : (x + p - q) % q = (x + p) % q := Int.sub_emod_right (x + p) q
    rw [← e3, Int.emod_eq_of_lt (by omega) (by omega)]
def flF (f : Int → Int) (v k : Int) : Int → Int := fun x => if 0 ≤ x ∧ x < k then v else f x
theorem flF_0 (f : Int → Int) (v : Int) : flF f v 0 = f := by
  funext x
  exact if_neg (by omega)
theorem flF_s {f : Int → Int} {v k : Int} (h : 0 ≤ k) : up1 (flF f v k) k v = flF f v (k + 1) := by
  funext x
  unfold up1 flF
  by_cases z : x = k
  · rw [if_pos z, if_pos (by omega)]
  · rw [if_neg z]
    by_cases y : 0 ≤ x ∧ x < k
    · rw [if_pos y, if_pos (by omega)]
    · rw [if_neg y, if_neg (by omega)]
/-- the measuring: the last point, the gaps by size -/
def plP (p q m x : Int) : Prop := x = q ∨ ptP p q m x
noncomputable def ms (p q m : Int) (g0 : Int → Int) (N : Int) : Int × (Int → Int) := it (fun k s => @ite _ (plP p q m (k + 1)) (Classical.propDecidable _) (k + 1, up1 s.2 (k + 1 - s.1) (s.2 (k + 1 - s.1) + 1)) s) (0, g0) N
theorem ms_0 (p q m : Int) (g0 : Int → Int) : ms p q m g0 0 = (0, g0) := it_0 (Int.le_refl 0)
theorem ms_t {p q m : Int} {g0 : Int → Int} {N : Int} (h : 0 ≤ N) (z : plP p q m (N + 1)) : ms p q m g0 (N + 1) = (N + 1, up1 (ms p q m g0 N).2 (N + 1 - (ms p q m g0 N).1) ((ms p q m g0 N).2 (N + 1 - (ms p q m g0 N).1) + 1)) := by
  show it _ _ (N + 1) = _
  rw [it_s h, if_pos z]
  rfl
theorem ms_f {p q m : Int} {g0 : Int → Int} {N : Int} (h : 0 ≤ N) (z : ¬ plP p q m (N + 1)) : ms p q m g0 (N + 1) = ms p q m g0 N := by
  show it _ _ (N + 1) = _
  rw [it_s h, if_neg z]
  rfl
theorem ms_r {p q m : Int} {g0 : Int → Int} (hg : ∀ z, 0 ≤ z → z < 1001 → g0 z = 0) : ∀ N : Nat, ∀ z, 0 ≤ z → z < 1001 → 0 ≤ (ms p q m g0 N).2 z ∧ (ms p q m g0 N).2 z ≤ N
  | 0 => fun z h1 h2 => by rw [show ((0 : Nat) : Int) = 0 from rfl, ms_0]; have := hg z h1 h2; show 0 ≤ g0 z ∧ g0 z ≤ 0; omega
  | N + 1 => fun z h1 h2 => by
    have h := ms_r (p := p) (q := q) (m := m) hg N z h1 h2
    rw [show ((N + 1 : Nat) : Int) = (N : Int) + 1 by omega]
    by_cases y : plP p q m ((N : Int) + 1)
    · rw [ms_t (by omega) y]
      show 0 ≤ up1 _ _ _ z ∧ up1 _ _ _ z ≤ _
      unfold up1
      split
      · rename_i e; rw [← e]; omega
      · omega
    · rw [ms_f (by omega) y]
      omega
theorem cnt_ext {P : Int → Prop} {a b : Int} (ha : 0 ≤ a) (hab : a ≤ b) (h : ∀ k, a ≤ k → k < b → ¬ P k) : cnt P b = cnt P a := by
  obtain ⟨k, rfl⟩ : ∃ k : Nat, b = a + k := ⟨(b - a).toNat, by omega⟩
  induction k with
  | zero => simp
  | succ k ih =>
    rw [show a + ((k + 1 : Nat) : Int) = a + k + 1 by omega, cnt_f (by omega) (h _ (by omega) (by omega))]
    exact ih (by omega) (fun j h1 h2 => h j h1 (by omega))
theorem pt_0 {p q m : Int} (hm : 1 ≤ m) : ptP p q m 0 := ⟨0, Int.le_refl 0, by omega, by rw [Int.zero_mul, Int.zero_emod]⟩
/-- the gaps by size are the reference's -/
theorem ms_gp {p q m : Int} {g0 : Int → Int} (hq : 0 < q ∧ q ≤ 1000) (hm : 1 ≤ m) (hg : ∀ z, 0 ≤ z → z < 1001 → g0 z = 0) : ∀ N : Nat, (N : Int) ≤ q → ((N : Int) < q → ptP p q m (ms p q m g0 N).1) ∧ (0 ≤ (ms p q m g0 N).1 ∧ (ms p q m g0 N).1 ≤ N) ∧ ((N : Int) = q → (ms p q m g0 N).1 = q) ∧ (∀ j, (ms p q m g0 N).1 < j → j ≤ N → ¬ ptP p q m j) ∧ ∀ z, 0 ≤ z → z < 1001 → (ms p q m g0 N).2 z = cnt (fun k => ptP p q m k ∧ fnd (fun g => 1 ≤ g ∧ ptP p q m ((k + g) % q)) (q + 1) = z) (ms p q m g0 N).1
  | 0 => fun _ => by
    rw [show ((0 : Nat) : Int) = 0 from rfl, ms_0]
    refine ⟨fun _ => pt_0 hm, ⟨Int.le_refl 0, Int.le_refl 0⟩, fun h => by omega, fun j h1 h2 => ?_, fun z h1 h2 => ?_⟩
    · have h1 : 0 < j := h1
      omega
    · rw [cnt_0 (Int.le_refl 0)]; exact hg z h1 h2
  | N + 1 => fun hN => by
    obtain ⟨i1, i2, -, i4, i5⟩ := ms_gp (p := p) hq hm hg N (by omega)
    rw [show ((N + 1 : Nat) : Int) = (N : Int) + 1 by omega]
    have i1 := i1 (by omega)
    by_cases y : plP p q m ((N : Int) + 1)
    · rw [ms_t (by omega) y]
      refine ⟨fun h => ?_, ⟨by show 0 ≤ (N : Int) + 1; omega, Int.le_refl _⟩, fun h => h, fun j h1 h2 => ?_, fun z h1 h2 => ?_⟩
      · rcases y with y | y
        · omega
        · exact y
      · have h1 : (N : Int) + 1 < j := h1
        omega
      · show up1 _ _ _ z = cnt _ ((N : Int) + 1)
        generalize hL : (ms p q m g0 N).1 = L at i1 i2 i4 i5 ⊢
        have e1 : fnd (fun g => 1 ≤ g ∧ ptP p q m ((L + g) % q)) (q + 1) = (N : Int) + 1 - L := by
          refine fnd_hit (by omega) (fnd_none (fun k k1 k2 k3 => ?_)) ⟨by omega, ?_⟩ (by omega)
          · have k4 := k3.2
            rw [Int.emod_eq_of_lt (by omega) (by omega)] at k4
            exact i4 (L + k) (by omega) (by omega) k4
          · rw [show L + ((N : Int) + 1 - L) = (N : Int) + 1 by omega]
            rcases y with y | y
            · rw [y, Int.emod_self]; exact pt_0 hm
            · rcases (show (N : Int) + 1 < q ∨ (N : Int) + 1 = q by omega) with w | w
              · rw [Int.emod_eq_of_lt (by omega) w]; exact y
              · rw [w, Int.emod_self]; exact pt_0 hm
        rw [cnt_ext (a := L + 1) (by omega) (by omega) (fun k k1 k2 k3 => i4 k (by omega) (by omega) k3.1), cnt_s i2.1]
        unfold up1
        by_cases w : z = (N : Int) + 1 - L
        · rw [if_pos w, ← w, i5 z h1 h2, bv_t ⟨i1, by rw [e1, w]⟩]
        · rw [if_neg w, i5 z h1 h2, bv_f (fun k => w (by rw [← k.2, e1])), Int.add_zero]
    · rw [ms_f (by omega) y]
      refine ⟨fun _ => i1, by omega, fun h => absurd (Or.inl h) y, fun j h1 h2 => ?_, i5⟩
      rcases (show j ≤ N ∨ j = (N : Int) + 1 by omega) with w | w
      · exact i4 j h1 w
      · rw [w]; exact fun k => y (Or.inr k)
theorem fnd_ge {P : Int → Prop} : ∀ N : Nat, -1 ≤ fnd P N
  | 0 => by rw [fnd_0 (by omega)]; omega
  | N + 1 => by
    rw [show ((N + 1 : Nat) : Int) = (N : Int) + 1 by omega, fnd_s (by omega)]
    have := fnd_ge (P := P) N
    by_cases y : fnd P N = -1 ∧ P N
    · rw [if_pos y]; omega
    · rw [if_neg y]; omega
