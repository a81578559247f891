theorem fnd_lt {P : Int → Prop} : ∀ N : Nat, fnd P N < N ∨ fnd P N = -1
  | 0 => Or.inr (fnd_0 (by omega))
  | N + 1 => by
    rw [show ((N + 1 : Nat) : Int) = (N : Int) + 1 by omega, fnd_s (by omega)]
    have := fnd_lt (P := P) N
    by_cases y : fnd P N = -1 ∧ P N
    · rw [if_pos y]; omega
    · rw [if_neg y]; omega
theorem fnd_bef {P : Int → Prop} {N j : Int} (hN : 0 ≤ N) (hj : 0 ≤ j) (h : j < fnd P N) : ¬ P j := by
  intro z
  have hl := nat_r (P := fun N => fnd P N < N ∨ fnd P N = -1) (fnd_lt (P := P)) hN
  have hl : fnd P N < N ∨ fnd P N = -1 := hl
  have hl2 : fnd P j < j ∨ fnd P j = -1 := nat_r (P := fun N => fnd P N < N ∨ fnd P N = -1) (fnd_lt (P := P)) hj
  rcases (show fnd P j = -1 ∨ ¬ fnd P j = -1 by omega) with q | q
  · have := fnd_hit hj q z (show j < N by omega); omega
  · have := fnd_keep hj rfl q (show j ≤ N by omega); omega
theorem ntm_pos {p q j : Int} (hj : 0 ≤ j) (h : j < ntm p q) : 0 < (eu p q j).2 := by
  have := fnd_bef (P := fun k => (eu p q k).2 ≤ 0) (N := 20) (by decide) hj h
  omega
/-- the class's palindrome test -/
def palC (b n k f : Int) : Prop := fct b n k f = fct (rvB b n) n (n - k - f) f
/-- the ring of six -/
def nxF (nx : Int) : Int := if nx + 1 < 6 then nx + 1 else 0
def kpF (kp : Int) : Int := if kp < 6 then kp + 1 else 6
def pvF (nx : Int) : Int := if 0 < nx then nx - 1 else 5
theorem liR_r {b n a q : Int} (hn : 0 ≤ n) (hq : 1 ≤ q) (hq2 : q ≤ 61) : -1 ≤ liR b n a q ∧ liR b n a q < q := by
  have h1 := liL_m (f := ltr b n) (a := a) (q := q) (i := 0) (Int.le_refl 0) hn
  have h2 := liH_m (f := ltr b n) (a := a) (q := q) (i := 0) (Int.le_refl 0) hn
  rw [show liL (ltr b n) a q 0 = 0 from it_0 (Int.le_refl 0)] at h1
  rw [show liH (ltr b n) a q 0 = q - 1 from it_0 (Int.le_refl 0)] at h2
  unfold liR
  split <;> omega
