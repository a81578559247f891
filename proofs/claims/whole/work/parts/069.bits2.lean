/-! the ones of a long: Long.bitCount's steps, a byte at a time -/
theorem bc_and {A B x y : Nat} (hx : x < 256) (hy : y < 256) : (256 * A + x) &&& (256 * B + y) = 256 * (A &&& B) + (x &&& y) := by
  have h1 := Nat.and_div_two_pow (a := 256 * A + x) (b := 256 * B + y) (n := 8)
  have h2 := Nat.and_mod_two_pow (a := 256 * A + x) (b := 256 * B + y) (n := 8)
  rw [show (2 : Nat) ^ 8 = 256 from rfl] at h1 h2
  rw [show (256 * A + x) / 256 = A by omega, show (256 * B + y) / 256 = B by omega] at h1
  rw [show (256 * A + x) % 256 = x by omega, show (256 * B + y) % 256 = y by omega] at h2
  have h3 : (x &&& y) < 256 := Nat.and_lt_two_pow (n := 8) x hy
  omega
def bcR (v : Nat) : Nat → Nat
  | 0 => 0
  | n + 1 => 256 * bcR v n + v
def bcA (M a : Nat) : Nat := a - ((a / 2) &&& M)
def bcB (M x : Nat) : Nat := (x &&& M) + ((x / 4) &&& M)
def bcC (M x : Nat) : Nat := (x + x / 16) &&& M
theorem bc_a {M h l : Nat} (hl : l < 256) : bcA (256 * M + 85) (256 * h + l) = 256 * bcA M h + bcA 85 l := by
  unfold bcA
  rw [show (256 * h + l) / 2 = 256 * (h / 2) + (128 * (h % 2) + l / 2) by omega, bc_and (by omega) (by decide)]
  have e : ∀ c : Nat, c < 2 → ∀ y : Nat, y < 128 → (128 * c + y) &&& 85 = y &&& 85 := by decide +kernel
  rw [e (h % 2) (by omega) (l / 2) (by omega)]
  have h1 : ((h / 2) &&& M) ≤ h / 2 := Nat.and_le_left
  have h2 : ((l / 2) &&& 85) ≤ l / 2 := Nat.and_le_left
  omega
theorem bc_b {M h l : Nat} (hl : l < 256) : bcB (256 * M + 51) (256 * h + l) = 256 * bcB M h + bcB 51 l := by
  unfold bcB
  rw [show (256 * h + l) / 4 = 256 * (h / 4) + (64 * (h % 4) + l / 4) by omega, bc_and (by omega) (by decide), bc_and (by omega) (by decide)]
  have e : ∀ c : Nat, c < 4 → ∀ y : Nat, y < 64 → (64 * c + y) &&& 51 = y &&& 51 := by decide +kernel
  rw [e (h % 4) (by omega) (l / 4) (by omega)]
  omega
theorem bc_c {M h l : Nat} (hl : l ≤ 68) (hh : h % 16 ≤ 4) : bcC (256 * M + 15) (256 * h + l) = 256 * bcC M h + bcC 15 l := by
  unfold bcC
  rw [show 256 * h + l + (256 * h + l) / 16 = 256 * (h + h / 16) + (l + 16 * (h % 16) + l / 16) by omega, bc_and (by omega) (by decide)]
  have e : ∀ c : Nat, c < 5 → ∀ y : Nat, y < 69 → (y + 16 * c + y / 16) &&& 15 = (y + y / 16) &&& 15 := by decide +kernel
  rw [e (h % 16) (by omega) l (by omega)]
theorem bc_t : ∀ l : Nat, l < 256 → bcA 85 l < 256 ∧ bcB 51 (bcA 85 l) ≤ 68 ∧ bcB 51 (bcA 85 l) % 16 ≤ 4 ∧ ((bcC 15 (bcB 51 (bcA 85 l)) : Nat) : Int) = pcN 8 l ∧ bcC 15 (bcB 51 (bcA 85 l)) ≤ 8 := by decide +kernel
def bcX (n a : Nat) : Nat := bcB (bcR 51 n) (bcA (bcR 85 n) a)
def bcG (n a : Nat) : Nat := bcC (bcR 15 n) (bcX n a)
theorem bc_x {n h l : Nat} (hl : l < 256) : bcX (n + 1) (256 * h + l) = 256 * bcX n h + bcB 51 (bcA 85 l) := by
  unfold bcX
  show bcB (256 * bcR 51 n + 51) (bcA (256 * bcR 85 n + 85) _) = _
  rw [bc_a hl, bc_b (bc_t l hl).1]
theorem bc_4 : ∀ (n a : Nat), bcX n a % 16 ≤ 4
  | 0, a => by
    have h1 : bcX 0 a = 0 := by
      unfold bcX bcB
      show (_ &&& 0) + (_ &&& 0) = 0
      rw [Nat.and_zero, Nat.and_zero]
    rw [h1]; decide
  | n + 1, a => by
    have h := (bc_t (a % 256) (by omega)).2.2.1
    rw [show a = 256 * (a / 256) + a % 256 by omega, bc_x (by omega)]
    omega
theorem bc_g {n h l : Nat} (hl : l < 256) : bcG (n + 1) (256 * h + l) = 256 * bcG n h + bcC 15 (bcB 51 (bcA 85 l)) := by
  unfold bcG
  rw [bc_x hl]
  show bcC (256 * bcR 15 n + 15) _ = _
  exact bc_c (bc_t l hl).2.1 (bc_4 n h)
theorem pcN_8 (k a : Nat) : pcN (k + 8) a = pcN 8 (a % 256) + pcN k (a / 256) := by
  have e : ∀ (j b : Nat), pcN (j + 1) b = (b % 2 : Nat) + pcN j (b / 2) := fun _ _ => rfl
  rw [show k + 8 = k + 7 + 1 from rfl, e, e, e, e, e, e, e, e]
  rw [show pcN 8 (a % 256) = (a % 256 % 2 : Nat) + ((a % 256 / 2 % 2 : Nat) + ((a % 256 / 2 / 2 % 2 : Nat) + ((a % 256 / 2 / 2 / 2 % 2 : Nat) + ((a % 256 / 2 / 2 / 2 / 2 % 2 : Nat) + ((a % 256 / 2 / 2 / 2 / 2 / 2 % 2 : Nat) + ((a % 256 / 2 / 2 / 2 / 2 / 2 / 2 % 2 : Nat) + ((a % 256 / 2 / 2 / 2 / 2 / 2 / 2 / 2 % 2 : Nat) + 0))))))) from rfl]
  rw [show a / 2 / 2 / 2 / 2 / 2 / 2 / 2 / 2 = a / 256 by omega]
  omega
theorem bc_all (a : Nat) (h : a < 18446744073709551616) : ∃ p : Nat → Nat, (∀ k, p k ≤ 8) ∧ bcG 8 a = p 0 + 256 * (p 1 + 256 * (p 2 + 256 * (p 3 + 256 * (p 4 + 256 * (p 5 + 256 * (p 6 + 256 * p 7)))))) ∧ pcN 64 a = ((p 0 + p 1 + p 2 + p 3 + p 4 + p 5 + p 6 + p 7 : Nat) : Int) := by
  let q : Nat → Nat := fun k => bcC 15 (bcB 51 (bcA 85 (a / 256 ^ k % 256)))
  have hq : ∀ k, ((q k : Nat) : Int) = pcN 8 (a / 256 ^ k % 256) ∧ q k ≤ 8 := fun k => (bc_t (a / 256 ^ k % 256) (Nat.mod_lt _ (by decide))).2.2.2
  have g : ∀ n k, bcG (n + 1) (a / 256 ^ k) = 256 * bcG n (a / 256 ^ (k + 1)) + q k := fun n k => by
    have e := bc_g (n := n) (h := a / 256 ^ k / 256) (l := a / 256 ^ k % 256) (Nat.mod_lt _ (by decide))
    rw [show 256 * (a / 256 ^ k / 256) + a / 256 ^ k % 256 = a / 256 ^ k by omega, Nat.div_div_eq_div_mul, ← Nat.pow_succ] at e
    exact e
  have s : ∀ n k, pcN (n + 8) (a / 256 ^ k) = q k + pcN n (a / 256 ^ (k + 1)) := fun n k => by
    rw [pcN_8, (hq k).1, Nat.div_div_eq_div_mul, ← Nat.pow_succ]
  refine ⟨q, fun k => (hq k).2, ?_, ?_⟩
  · have g0 := g 7 0; have g1 := g 6 1; have g2 := g 5 2; have g3 := g 4 3; have g4 := g 3 4; have g5 := g 2 5; have g6 := g 1 6; have g7 := g 0 7
    have g8 : bcG 0 (a / 256 ^ 8) = 0 := by
      unfold bcG bcC
      show _ &&& 0 = 0
      exact Nat.and_zero _
    rw [show a / 256 ^ 0 = a by rw [Nat.pow_zero, Nat.div_one]] at g0
    simp only [Nat.reduceAdd] at g0 g1 g2 g3 g4 g5 g6 g7 g8
    rw [g0, g1, g2, g3, g4, g5, g6, g7, g8]
    omega
  · have s0 := s 56 0; have s1 := s 48 1; have s2 := s 40 2; have s3 := s 32 3; have s4 := s 24 4; have s5 := s 16 5; have s6 := s 8 6; have s7 := s 0 7
    have s8 : pcN 0 (a / 256 ^ 8) = 0 := rfl
    rw [show a / 256 ^ 0 = a by rw [Nat.pow_zero, Nat.div_one]] at s0
    simp only [Nat.reduceAdd] at *
    omega
theorem bc_end {p0 p1 p2 p3 p4 p5 p6 p7 x : Nat} (h : p0 ≤ 8 ∧ p1 ≤ 8 ∧ p2 ≤ 8 ∧ p3 ≤ 8 ∧ p4 ≤ 8 ∧ p5 ≤ 8 ∧ p6 ≤ 8 ∧ p7 ≤ 8) (e : x = p0 + 256 * (p1 + 256 * (p2 + 256 * (p3 + 256 * (p4 + 256 * (p5 + 256 * (p6 + 256 * p7))))))) :
    ∃ y z : Nat, y = x + x / 256 ∧ z = y + y / 65536 ∧ (z + z / 4294967296) % 128 = p0 + p1 + p2 + p3 + p4 + p5 + p6 + p7 ∧ z + z / 4294967296 < 1152921504606846976 := by
  have key : ((p0 + p1 + p2 + p3) + 256 * ((p1 + p2 + p3 + p4) + 256 * ((p2 + p3 + p4 + p5) + 256 * ((p3 + p4 + p5 + p6) + 256 * ((p4 + p5 + p6 + p7) + 256 * ((p5 + p6 + p7) + 256 * ((p6 + p7) + 256 * p7))))))) / 4294967296 = (p4 + p5 + p6 + p7) + 256 * ((p5 + p6 + p7) + 256 * ((p6 + p7) + 256 * p7)) := by omega
  refine ⟨(p0 + p1) + 256 * ((p1 + p2) + 256 * ((p2 + p3) + 256 * ((p3 + p4) + 256 * ((p4 + p5) + 256 * ((p5 + p6) + 256 * ((p6 + p7) + 256 * p7)))))), (p0 + p1 + p2 + p3) + 256 * ((p1 + p2 + p3 + p4) + 256 * ((p2 + p3 + p4 + p5) + 256 * ((p3 + p4 + p5 + p6) + 256 * ((p4 + p5 + p6 + p7) + 256 * ((p5 + p6 + p7) + 256 * ((p6 + p7) + 256 * p7)))))), by omega, by omega, ?_, ?_⟩
  · rw [key]; omega
  · rw [key]; omega
theorem lZ_and (n k : Nat) : lZ (n : Int) &&& lZ (k : Int) = lZ ((n &&& k : Nat) : Int) := by
  rw [← lZ_lN, ← lZ_lN, ← lZ_lN]
  apply Int64.toBitVec_inj.mp
  rw [Int64.toBitVec_and]
  show BitVec.ofNat 64 n &&& BitVec.ofNat 64 k = BitVec.ofNat 64 (n &&& k)
  exact (BitVec.ofNat_and).symm
theorem iZ_127 (n : Nat) : iZ (n : Int) &&& iZ 127 = iZ ((n % 128 : Nat) : Int) := by
  rw [show (127 : Int) = ((127 : Nat) : Int) from rfl, ← iZ_nI, ← iZ_nI, ← iZ_nI]
  apply Int32.toBitVec_inj.mp
  rw [Int32.toBitVec_and]
  show BitVec.ofNat 32 n &&& BitVec.ofNat 32 127 = BitVec.ofNat 32 (n % 128)
  rw [← BitVec.ofNat_and]
  congr 1
  exact Nat.and_two_pow_sub_one_eq_mod n 7
set_option maxHeartbeats 4000000 in
theorem c_J13_bitCount_95d88 (lau : Launch) (G : va_G) (cy : Nat → ClassId) (a : Int) (h1 : 0 ≤ a ∧ a < 2305843009213693954) : Met lau yJ13_bitCount_95d88 wsJ13_bitCount_95d88 ({ frames := 0, cells := 0, slots := 0, locals := 0 }) (P1 G cy [.long (lZ a)] (fun _ => True)) (vp_Si (fun r => r = iZ (ons a))) 0 0 (fun _ => False) := by
  refine z_head (lv := [(0, .long (lZ a))]) RJ13 (by decide) rfl rfl (Nat.le_of_ble_eq_true rfl) rfl ?_
  intro pr ev s mt below meth cd ls hx hb hr hlocks hml hown hname hts hKK hP hl
  obtain ⟨n, rfl⟩ : ∃ n : Nat, a = n := ⟨a.toNat, by omega⟩
  obtain ⟨p, hp, hg, hc⟩ := bc_all n (by omega)
  have r1 : bcR 85 8 = 6148914691236517205 := by decide +kernel
  have r2 : bcR 51 8 = 3689348814741910323 := by decide +kernel
  have r3 : bcR 15 8 = 1085102592571150095 := by decide +kernel
  obtain ⟨y, z, hy, hz, hm, hzl⟩ := bc_end ⟨hp 0, hp 1, hp 2, hp 3, hp 4, hp 5, hp 6, hp 7⟩ hg
  unfold bcG bcX bcC bcB at hy
  rw [r1, r2, r3] at hy
  generalize hx1 : bcA 6148914691236517205 n = x1 at hy
  unfold bcA at hx1
  generalize hx2 : (x1 &&& 3689348814741910323) + (x1 / 4 &&& 3689348814741910323) = x2 at hy
  generalize hx3 : (x2 + x2 / 16 &&& 1085102592571150095) = x3 at hy
  have q1 : (n / 2 &&& 6148914691236517205) ≤ n / 2 := Nat.and_le_left
  have q2 : (x1 &&& 3689348814741910323) ≤ 3689348814741910323 := Nat.and_le_right
  have q3 : (x1 / 4 &&& 3689348814741910323) ≤ 3689348814741910323 := Nat.and_le_right
  have q4 : (x2 + x2 / 16 &&& 1085102592571150095) ≤ 1085102592571150095 := Nat.and_le_right
  refine lv_lload_n hx hb dJ13_bitCount_95d88_0 rfl (lv_at hl 0 rfl) ?_
  refine lv_lload_n hx hb dJ13_bitCount_95d88_1 rfl (lv_at hl 0 rfl) ?_
  refine lv_iconst (v := iZ 1) hx hb dJ13_bitCount_95d88_2 rfl ?_
  refine z_lushr hx hb dJ13_bitCount_95d88_3 (by omega) ?_
  refine z_topl (b := ((n / 2 : Nat) : Int)) (by rw [show pw 1 = ((2 : Nat) : Int) from rfl]; rfl) ?_
  refine lv_ldc2 (v := lZ 6148914691236517205) hx hb hown (hts (.constantLong RJ13 314 (lZ 6148914691236517205)) (by decide +kernel)) dJ13_bitCount_95d88_4 ?_
  refine lv_land hx hb dJ13_bitCount_95d88_7 ?_
  rw [show lZ 6148914691236517205 = lZ ((6148914691236517205 : Nat) : Int) from rfl, lZ_and]
  refine z_lsub hx hb dJ13_bitCount_95d88_8 ?_
  refine z_topl (b := ((x1 : Nat) : Int)) (by rw [← hx1]; omega) ?_
  refine lv_lstore_n (lv' := [(0, .long (lZ ((x1 : Nat) : Int)))]) hx hb dJ13_bitCount_95d88_9 rfl hl (by decide) rfl (fun ls hl => ?_)
  refine lv_lload_n hx hb dJ13_bitCount_95d88_10 rfl (lv_at hl 0 rfl) ?_
  refine lv_ldc2 (v := lZ 3689348814741910323) hx hb hown (hts (.constantLong RJ13 316 (lZ 3689348814741910323)) (by decide +kernel)) dJ13_bitCount_95d88_11 ?_
  refine lv_land hx hb dJ13_bitCount_95d88_14 ?_
  rw [show lZ 3689348814741910323 = lZ ((3689348814741910323 : Nat) : Int) from rfl, lZ_and]
  refine lv_lload_n hx hb dJ13_bitCount_95d88_15 rfl (lv_at hl 0 rfl) ?_
  refine lv_iconst (v := iZ 2) hx hb dJ13_bitCount_95d88_16 rfl ?_
  refine z_lushr hx hb dJ13_bitCount_95d88_17 (by omega) ?_
  refine z_topl (b := ((x1 / 4 : Nat) : Int)) (by rw [show pw 2 = ((4 : Nat) : Int) from rfl]; rfl) ?_
  refine lv_ldc2 (v := lZ 3689348814741910323) hx hb hown (hts (.constantLong RJ13 316 (lZ 3689348814741910323)) (by decide +kernel)) dJ13_bitCount_95d88_18 ?_
  refine lv_land hx hb dJ13_bitCount_95d88_21 ?_
  rw [show lZ 3689348814741910323 = lZ ((3689348814741910323 : Nat) : Int) from rfl, lZ_and]
  refine z_ladd hx hb dJ13_bitCount_95d88_22 ?_
  refine z_topl (b := ((x2 : Nat) : Int)) (by rw [← hx2]; omega) ?_
  refine lv_lstore_n (lv' := [(0, .long (lZ ((x2 : Nat) : Int)))]) hx hb dJ13_bitCount_95d88_23 rfl hl (by decide) rfl (fun ls hl => ?_)
  refine lv_lload_n hx hb dJ13_bitCount_95d88_24 rfl (lv_at hl 0 rfl) ?_
  refine lv_lload_n hx hb dJ13_bitCount_95d88_25 rfl (lv_at hl 0 rfl) ?_
  refine lv_iconst (v := iZ 4) hx hb dJ13_bitCount_95d88_26 rfl ?_
  refine z_lushr hx hb dJ13_bitCount_95d88_27 (by omega) ?_
  refine z_topl (b := ((x2 / 16 : Nat) : Int)) (by rw [show pw 4 = ((16 : Nat) : Int) from rfl]; rfl) ?_
  refine z_ladd hx hb dJ13_bitCount_95d88_28 ?_
  refine z_topl (b := ((x2 + x2 / 16 : Nat) : Int)) (by omega) ?_
  refine lv_ldc2 (v := lZ 1085102592571150095) hx hb hown (hts (.constantLong RJ13 318 (lZ 1085102592571150095)) (by decide +kernel)) dJ13_bitCount_95d88_29 ?_
  refine lv_land hx hb dJ13_bitCount_95d88_32 ?_
  rw [show lZ 1085102592571150095 = lZ ((1085102592571150095 : Nat) : Int) from rfl, lZ_and]
  rw [hx3]
  refine lv_lstore_n (lv' := [(0, .long (lZ ((x3 : Nat) : Int)))]) hx hb dJ13_bitCount_95d88_33 rfl hl (by decide) rfl (fun ls hl => ?_)
  refine lv_lload_n hx hb dJ13_bitCount_95d88_34 rfl (lv_at hl 0 rfl) ?_
  refine lv_lload_n hx hb dJ13_bitCount_95d88_35 rfl (lv_at hl 0 rfl) ?_
  refine lv_bipush (v := iZ 8) hx hb dJ13_bitCount_95d88_36 (by decide +kernel) ?_
  refine z_lushr hx hb dJ13_bitCount_95d88_38 (by omega) ?_
  refine z_topl (b := ((x3 / 256 : Nat) : Int)) (by rw [show pw 8 = ((256 : Nat) : Int) from rfl]; rfl) ?_
  refine z_ladd hx hb dJ13_bitCount_95d88_39 ?_
  refine z_topl (b := ((y : Nat) : Int)) (by omega) ?_
  refine lv_lstore_n (lv' := [(0, .long (lZ ((y : Nat) : Int)))]) hx hb dJ13_bitCount_95d88_40 rfl hl (by decide) rfl (fun ls hl => ?_)
  refine lv_lload_n hx hb dJ13_bitCount_95d88_41 rfl (lv_at hl 0 rfl) ?_
  refine lv_lload_n hx hb dJ13_bitCount_95d88_42 rfl (lv_at hl 0 rfl) ?_
  refine lv_bipush (v := iZ 16) hx hb dJ13_bitCount_95d88_43 (by decide +kernel) ?_
  refine z_lushr hx hb dJ13_bitCount_95d88_45 (by omega) ?_
  refine z_topl (b := ((y / 65536 : Nat) : Int)) (by rw [show pw 16 = ((65536 : Nat) : Int) from rfl]; rfl) ?_
  refine z_ladd hx hb dJ13_bitCount_95d88_46 ?_
  refine z_topl (b := ((z : Nat) : Int)) (by omega) ?_
  refine lv_lstore_n (lv' := [(0, .long (lZ ((z : Nat) : Int)))]) hx hb dJ13_bitCount_95d88_47 rfl hl (by decide) rfl (fun ls hl => ?_)
  refine lv_lload_n hx hb dJ13_bitCount_95d88_48 rfl (lv_at hl 0 rfl) ?_
  refine lv_lload_n hx hb dJ13_bitCount_95d88_49 rfl (lv_at hl 0 rfl) ?_
  refine lv_bipush (v := iZ 32) hx hb dJ13_bitCount_95d88_50 (by decide +kernel) ?_
  refine z_lushr hx hb dJ13_bitCount_95d88_52 (by omega) ?_
  refine z_topl (b := ((z / 4294967296 : Nat) : Int)) (by rw [show pw 32 = ((4294967296 : Nat) : Int) from rfl]; rfl) ?_
  refine z_ladd hx hb dJ13_bitCount_95d88_53 ?_
  refine z_topl (b := ((z + z / 4294967296 : Nat) : Int)) (by omega) ?_
  refine lv_lstore_n (lv' := [(0, .long (lZ ((z + z / 4294967296 : Nat) : Int)))]) hx hb dJ13_bitCount_95d88_54 rfl hl (by decide) rfl (fun ls hl => ?_)
  refine lv_lload_n hx hb dJ13_bitCount_95d88_55 rfl (lv_at hl 0 rfl) ?_
  refine z_l2i hx hb dJ13_bitCount_95d88_56 ?_
  refine lv_bipush (v := iZ 127) hx hb dJ13_bitCount_95d88_57 (by decide +kernel) ?_
  refine lv_iand hx hb dJ13_bitCount_95d88_59 ?_
  rw [iZ_127, hm]
  exact z_iretP hx hb hr hlocks dJ13_bitCount_95d88_60 (by unfold ons; rw [show ((n : Int)).toNat = n from rfl, hc])
