theorem j_sl {p q : Int} (hq : 1 ≤ q ∧ q ≤ 1000) (hp : 0 ≤ p ∧ p ≤ q) : 0 ≤ p / (Int.gcd p q : Int) ∧ p / (Int.gcd p q : Int) ≤ q / (Int.gcd p q : Int) ∧ 1 ≤ q / (Int.gcd p q : Int) ∧ q / (Int.gcd p q : Int) ≤ 1000 ∧ 0 ≤ (0 : Int) ∧ 0 < q / (Int.gcd p q : Int) := by
  have hg := cd_r (a := p) (d := q) (by omega)
  have h1 := Int.ediv_nonneg hp.1 (Int.le_of_lt hg.1)
  have h2 := Int.ediv_le_ediv hg.1 hp.2
  have h3 : 1 ≤ q / (Int.gcd p q : Int) := by rw [Int.le_ediv_iff_mul_le hg.1]; omega
  have h4 := Int.ediv_le_self (Int.gcd p q : Int) (show 0 ≤ q by omega)
  omega
theorem ntm_r {p q : Int} (hp : 0 ≤ p ∧ p ≤ q) (hq : 0 < q ∧ q ≤ 1000) : 0 ≤ ntm p q ∧ ntm p q ≤ 19 := by
  have h : ¬ ntm p q = -1 := fun z => by
    have h1 := fnd_none_lt (P := fun k => (eu p q k).2 ≤ 0) (N := 20) z (k := 19) (by decide) (by decide)
    have h2 := eu_20 hp hq (k := 19) (by decide) (Int.not_le.mp h1)
    omega
  have h2 := fnd_in (P := fun k => (eu p q k).2 ≤ 0) (N := 20) h
  have h3 : 0 ≤ ntm p q := h2.1
  have h4 : ntm p q < 20 := h2.2.1
  omega
theorem stW_le {p q k : Int} (h : ∀ j, 0 ≤ j → j ≤ k → (stS p q j).1.2 ≤ 60) : (stW p q k).2 ≤ 60 := by
  unfold stW
  split
  · decide
  · exact h k (by omega) (Int.le_refl k)
theorem pI_nn {mo b n : Int} : ∀ k : Nat, (pI mo b n k).1 < 0 ∨ (0 ≤ (pI mo b n k).2.2 ∧ (pI mo b n k).2.2 ≤ (pI mo b n k).1 ∧ ((pI mo b n k).2.2 ≤ n ∨ (pI mo b n k).2.2 = 0))
  | 0 => by rw [show ((0 : Nat) : Int) = 0 from rfl, pI_0]; exact Or.inr ⟨Int.le_refl 0, Int.le_refl 0, Or.inr rfl⟩
  | k + 1 => by
    have q := pI_nn (mo := mo) (b := b) (n := n) k
    rw [show ((k + 1 : Nat) : Int) = (k : Int) + 1 by omega, pI_s (by omega)]
    unfold pIs
    split
    · exact q
    · split
      · exact Or.inl (by decide)
      · have hm := mN_r mo (lbI mo b n (pI mo b n k).1)
        rename_i h1 h2
        refine Or.inr ⟨?_, ?_, Or.inl ?_⟩
        · show 0 ≤ (pI mo b n k).2.2 + 1; omega
        · show (pI mo b n k).2.2 + 1 ≤ (pI mo b n k).1 + mN mo _; omega
        · show (pI mo b n k).2.2 + 1 ≤ n; omega
theorem pI_le {mo b n : Int} (hn : n ≤ 60) (h : 0 ≤ (pI mo b n 61).1) : (pI mo b n 61).2.2 ≤ 60 := by
  have q := pI_nn (mo := mo) (b := b) (n := n) 61
  rw [show ((61 : Nat) : Int) = 61 from rfl] at q
  omega
