/-! z: whole numbers for ints and longs; the rows of the kit, turned to them -/
def iZ (z : Int) : Int32 := Int32.ofInt z
def lZ (z : Int) : Int64 := Int64.ofInt z
/-- 2 to the k -/
def pw (k : Int) : Int := 2 ^ k.toNat
theorem pw_pos (k : Int) : 0 < pw k := Int.pow_pos (by decide)
theorem pw_0 : pw 0 = 1 := rfl
theorem pw_1 : pw 1 = 2 := rfl
theorem pw_s {k : Int} (h : 0 ≤ k) : pw (k + 1) = 2 * pw k := by
  have e : (k + 1).toNat = k.toNat + 1 := by omega
  unfold pw
  rw [e, Int.pow_succ, Int.mul_comm]
theorem pw_add {a b : Int} (ha : 0 ≤ a) (hb : 0 ≤ b) : pw (a + b) = pw a * pw b := by
  have e : (a + b).toNat = a.toNat + b.toNat := by omega
  unfold pw
  rw [e, Int.pow_add]
theorem pw_cast (k : Int) : pw k = ((2 ^ k.toNat : Nat) : Int) := by
  unfold pw
  rw [Int.natCast_pow]
  rfl
theorem pw_le {a b : Int} (ha : 0 ≤ a) (h : a ≤ b) : pw a ≤ pw b := by
  rw [pw_cast, pw_cast]
  have := Nat.pow_le_pow_right (n := 2) (by decide) (show a.toNat ≤ b.toNat by omega)
  omega
theorem pw_62 {a : Int} (ha : a ≤ 61) : pw a ≤ 2305843009213693952 := by
  rw [pw_cast]
  have := Nat.pow_le_pow_right (n := 2) (by decide) (show a.toNat ≤ 61 by omega)
  have e : (2 : Nat) ^ 61 = 2305843009213693952 := by decide +kernel
  omega
theorem iZ_t {z : Int} (h1 : -2147483648 ≤ z) (h2 : z < 2147483648) : (iZ z).toInt = z := by
  show (Int32.ofInt z).toInt = z
  rw [Int32.toInt_ofInt]
  exact fb_bmod h1 h2
theorem lZ_t {z : Int} (h1 : -9223372036854775808 ≤ z) (h2 : z < 9223372036854775808) : (lZ z).toInt = z := by
  show (Int64.ofInt z).toInt = z
  rw [Int64.toInt_ofInt]
  exact fb_bmodL h1 h2
theorem iZ_of (x : Int32) : ∃ z : Int, x = iZ z ∧ -2147483648 ≤ z ∧ z < 2147483648 :=
  ⟨x.toInt, (Int32.ofInt_toInt x).symm, Int32.le_toInt x, Int32.toInt_lt x⟩
theorem iZ_nI (n : Nat) : nI n = iZ (n : Int) := by
  show Int32.ofNat n = Int32.ofInt (n : Int)
  exact (Int32.ofInt_eq_ofNat).symm
theorem iZ_add (a b : Int) : iZ a + iZ b = iZ (a + b) := (Int32.ofInt_add a b).symm
theorem iZ_sub (a b : Int) : iZ a - iZ b = iZ (a - b) := (Int32.ofInt_sub a b).symm
theorem iZ_mul (a b : Int) : iZ a * iZ b = iZ (a * b) := (Int32.ofInt_mul a b).symm
theorem lZ_add (a b : Int) : lZ a + lZ b = lZ (a + b) := (Int64.ofInt_add a b).symm
theorem lZ_sub (a b : Int) : lZ a - lZ b = lZ (a - b) := (Int64.ofInt_sub a b).symm
theorem lZ_mul (a b : Int) : lZ a * lZ b = lZ (a * b) := (Int64.ofInt_mul a b).symm
theorem iZ_lt {a b : Int} (h : -2147483648 ≤ a ∧ a < 2147483648 ∧ -2147483648 ≤ b ∧ b < 2147483648) : iZ a < iZ b ↔ a < b := by
  rw [Int32.lt_iff_toInt_lt, iZ_t h.1 h.2.1, iZ_t h.2.2.1 h.2.2.2]
theorem iZ_le {a b : Int} (h : -2147483648 ≤ a ∧ a < 2147483648 ∧ -2147483648 ≤ b ∧ b < 2147483648) : iZ a ≤ iZ b ↔ a ≤ b := by
  rw [Int32.le_iff_toInt_le, iZ_t h.1 h.2.1, iZ_t h.2.2.1 h.2.2.2]
theorem iZ_eq {a b : Int} (h : -2147483648 ≤ a ∧ a < 2147483648 ∧ -2147483648 ≤ b ∧ b < 2147483648) : iZ a = iZ b ↔ a = b := by
  constructor
  · intro q
    have := congrArg Int32.toInt q
    rwa [iZ_t h.1 h.2.1, iZ_t h.2.2.1 h.2.2.2] at this
  · rintro rfl; rfl
theorem lZ_lt {a b : Int} (h : -9223372036854775808 ≤ a ∧ a < 9223372036854775808 ∧ -9223372036854775808 ≤ b ∧ b < 9223372036854775808) : lZ a < lZ b ↔ a < b := by
  rw [Int64.lt_iff_toInt_lt, lZ_t h.1 h.2.1, lZ_t h.2.2.1 h.2.2.2]
theorem lZ_eq {a b : Int} (h : -9223372036854775808 ≤ a ∧ a < 9223372036854775808 ∧ -9223372036854775808 ≤ b ∧ b < 9223372036854775808) : lZ a = lZ b ↔ a = b := by
  constructor
  · intro q
    have := congrArg Int64.toInt q
    rwa [lZ_t h.1 h.2.1, lZ_t h.2.2.1 h.2.2.2] at this
  · rintro rfl; rfl
theorem iZ_0 : (0 : Int32) = iZ 0 := by decide +kernel
theorem iZ_cl {z : Int} (h1 : 0 ≤ z) (h2 : z < 2147483648) : (iZ z).toNatClampNeg = z.toNat := by
  show (iZ z).toInt.toNat = _
  rw [iZ_t (by omega) h2]
theorem iZ_in {z : Int} {n : Nat} (h : 0 ≤ z ∧ z < 2147483648 ∧ z < n) : vp_in (iZ z) n := by
  rw [vp_in_iff, iZ_t (by omega) h.2.1]
  omega
theorem iZ_div {a b : Int} (ha : 0 ≤ a ∧ a < 2147483648) (hb : 0 < b ∧ b < 2147483648) : iZ a / iZ b = iZ (a / b) := by
  obtain ⟨n, rfl⟩ : ∃ n : Nat, a = n := ⟨a.toNat, by omega⟩
  obtain ⟨k, rfl⟩ : ∃ n : Nat, b = n := ⟨b.toNat, by omega⟩
  rw [← iZ_nI, ← iZ_nI, pk_div (by omega) (by omega) (by omega), iZ_nI]
  rfl
theorem iZ_rem {a b : Int} (ha : 0 ≤ a ∧ a < 2147483648) (hb : 0 < b ∧ b < 2147483648) : iZ a - iZ a / iZ b * iZ b = iZ (a % b) := by
  rw [iZ_div ha hb, iZ_mul, iZ_sub]
  congr 1
  rw [Int.emod_def, Int.mul_comm b]
theorem lZ_lN (n : Nat) : lN n = lZ (n : Int) := by
  show Int64.ofNat n = Int64.ofInt (n : Int)
  exact (Int64.ofInt_eq_ofNat).symm
theorem lZ_div {a b : Int} (ha : 0 ≤ a ∧ a < 9223372036854775808) (hb : 0 < b ∧ b < 9223372036854775808) : lZ a / lZ b = lZ (a / b) := by
  obtain ⟨n, rfl⟩ : ∃ n : Nat, a = n := ⟨a.toNat, by omega⟩
  obtain ⟨k, rfl⟩ : ∃ n : Nat, b = n := ⟨b.toNat, by omega⟩
  rw [← lZ_lN, ← lZ_lN, pk_lDiv (by omega) (by omega) (by omega), lZ_lN]
  rfl
theorem iZ_l {a : Int} (h : -2147483648 ≤ a ∧ a < 2147483648) : (iZ a).toInt64 = lZ a := by
  apply Int64.toInt_inj.mp
  rw [Int32.toInt_toInt64, iZ_t h.1 h.2, lZ_t (by omega) (by omega)]
theorem lZ_i (a : Int) : (lZ a).toInt32 = iZ a := by
  show (Int64.ofInt a).toInt32 = Int32.ofInt a
  exact Int64.toInt32_ofInt
theorem lZ_shr {a k : Int} (ha : 0 ≤ a ∧ a < 9223372036854775808) (hk : 0 ≤ k ∧ k < 64) : ((lZ a).toUInt64 >>> ((iZ k).toInt64.toUInt64 &&& Int64.toUInt64 63)).toInt64 = lZ (a / pw k) := by
  obtain ⟨n, rfl⟩ : ∃ n : Nat, a = n := ⟨a.toNat, by omega⟩
  obtain ⟨j, rfl⟩ : ∃ n : Nat, k = n := ⟨k.toNat, by omega⟩
  rw [← lZ_lN, ← iZ_nI, wb_shr (by omega) (by omega), lZ_lN, pw_cast]
  rfl
theorem lZ_shl {a k : Int} (ha : 0 ≤ a) (hk : 0 ≤ k ∧ k < 64) : lZ a <<< ((iZ k).toInt64 &&& 63) = lZ (a * pw k) := by
  obtain ⟨n, rfl⟩ : ∃ n : Nat, a = n := ⟨a.toNat, by omega⟩
  obtain ⟨j, rfl⟩ : ∃ n : Nat, k = n := ⟨k.toNat, by omega⟩
  rw [← lZ_lN, ← iZ_nI, wb_shl n (by omega), lZ_lN, pw_cast, Int.natCast_mul]
  rfl
theorem lZ_mask {a k : Int} (ha : 0 ≤ a ∧ a < 9223372036854775808) (hk : 0 ≤ k ∧ k < 64) : lZ a &&& lZ (pw k - 1) = lZ (a % pw k) := by
  obtain ⟨n, rfl⟩ : ∃ n : Nat, a = n := ⟨a.toNat, by omega⟩
  obtain ⟨j, rfl⟩ : ∃ n : Nat, k = n := ⟨k.toNat, by omega⟩
  have e : pw (j : Int) - 1 = ((2 ^ j - 1 : Nat) : Int) := by
    have h := Nat.pow_pos (n := j) (show 0 < 2 by decide)
    rw [pw_cast, show ((j : Int)).toNat = j from rfl]
    omega
  rw [e, ← lZ_lN, ← lZ_lN, wb_mask (by omega) (by omega), lZ_lN, pw_cast]
  rfl
theorem lZ_or {a b k : Int} (hk : 0 ≤ k ∧ k < 63) (ha : 0 ≤ a ∧ a * pw k + b < 9223372036854775808) (hb : 0 ≤ b ∧ b < pw k) : lZ (a * pw k) ||| lZ b = lZ (a * pw k + b) := by
  obtain ⟨n, rfl⟩ : ∃ n : Nat, a = n := ⟨a.toNat, by omega⟩
  obtain ⟨j, rfl⟩ : ∃ n : Nat, k = n := ⟨k.toNat, by omega⟩
  obtain ⟨z, rfl⟩ : ∃ n : Nat, b = n := ⟨b.toNat, by omega⟩
  rw [pw_cast, show ((j : Int)).toNat = j from rfl] at ha hb ⊢
  rw [← Int.natCast_mul, ← Int.natCast_add] at *
  rw [← lZ_lN, ← lZ_lN, ← lZ_lN, g_or (k := j) rfl (by omega) (by omega)]
/-- a truth as a number -/
noncomputable def bv (P : Prop) : Int := @ite _ P (Classical.propDecidable P) 1 0
theorem bv_t {P : Prop} (h : P) : bv P = 1 := by unfold bv; rw [if_pos h]
theorem bv_f {P : Prop} (h : ¬ P) : bv P = 0 := by unfold bv; rw [if_neg h]
theorem bv_r (P : Prop) : bv P = 0 ∨ bv P = 1 := by
  rcases Classical.em P with h | h
  · exact Or.inr (bv_t h)
  · exact Or.inl (bv_f h)
theorem bv_0 {P : Prop} : bv P = 0 ↔ ¬ P := by
  rcases Classical.em P with h | h
  · rw [bv_t h]; simp [h]
  · rw [bv_f h]; simp [h]
theorem bv_c {P Q : Prop} (h : P ↔ Q) : bv P = bv Q := by rw [propext h]
theorem bv_zr (P : Prop) : narrow .boolean (.int (iZ (bv P))) = .int (iZ (bv P)) := by
  rcases bv_r P with h | h <;> rw [h] <;> rfl
section ZR
variable {p : Program} {l : Launch} {e : Env} {R : Room} {s : State} {m : MethodId} {args : Array Value} {below : List Frame} {meth : Method} {c : Code} {H : Heap} {locs : List Loc} {cells slots : Nat} {Q : State → Prop}
variable {cc : ByteArray} {pc : Nat} {ls : Array Slot} {rest : List Value} {a b : Int}
theorem z_iadd (hx : p.tables.exec = Jvm.exec) (hb : c.code = cc) (d : decode cc pc = .ok (.iadd, 1)) (k : W p l e R s m args below meth c H locs cells slots Q (F0 m (pc + 1) ls (.int (iZ (a + b)) :: rest))) : W p l e R s m args below meth c H locs cells slots Q (F0 m pc ls (.int (iZ b) :: .int (iZ a) :: rest)) := lv_iadd hx hb d (by rw [iZ_add]; exact k)
theorem z_isub (hx : p.tables.exec = Jvm.exec) (hb : c.code = cc) (d : decode cc pc = .ok (.isub, 1)) (k : W p l e R s m args below meth c H locs cells slots Q (F0 m (pc + 1) ls (.int (iZ (a - b)) :: rest))) : W p l e R s m args below meth c H locs cells slots Q (F0 m pc ls (.int (iZ b) :: .int (iZ a) :: rest)) := lv_isub hx hb d (by rw [iZ_sub]; exact k)
theorem z_imul (hx : p.tables.exec = Jvm.exec) (hb : c.code = cc) (d : decode cc pc = .ok (.imul, 1)) (k : W p l e R s m args below meth c H locs cells slots Q (F0 m (pc + 1) ls (.int (iZ (a * b)) :: rest))) : W p l e R s m args below meth c H locs cells slots Q (F0 m pc ls (.int (iZ b) :: .int (iZ a) :: rest)) := lv_imul hx hb d (by rw [iZ_mul]; exact k)
theorem z_idiv (hx : p.tables.exec = Jvm.exec) (hb : c.code = cc) (d : decode cc pc = .ok (.idiv, 1)) (h : (0 ≤ a ∧ a < 2147483648) ∧ 0 < b ∧ b < 2147483648) (k : W p l e R s m args below meth c H locs cells slots Q (F0 m (pc + 1) ls (.int (iZ (a / b)) :: rest))) : W p l e R s m args below meth c H locs cells slots Q (F0 m pc ls (.int (iZ b) :: .int (iZ a) :: rest)) := lv_idiv hx hb d (by rw [iZ_0, iZ_eq (by omega)]; omega) (by rw [iZ_div h.1 h.2]; exact k)
theorem z_irem (hx : p.tables.exec = Jvm.exec) (hb : c.code = cc) (d : decode cc pc = .ok (.irem, 1)) (h : (0 ≤ a ∧ a < 2147483648) ∧ 0 < b ∧ b < 2147483648) (k : W p l e R s m args below meth c H locs cells slots Q (F0 m (pc + 1) ls (.int (iZ (a % b)) :: rest))) : W p l e R s m args below meth c H locs cells slots Q (F0 m pc ls (.int (iZ b) :: .int (iZ a) :: rest)) := lv_irem hx hb d (by rw [iZ_0, iZ_eq (by omega)]; omega) (by rw [iZ_rem h.1 h.2]; exact k)
theorem z_ladd (hx : p.tables.exec = Jvm.exec) (hb : c.code = cc) (d : decode cc pc = .ok (.ladd, 1)) (k : W p l e R s m args below meth c H locs cells slots Q (F0 m (pc + 1) ls (.long (lZ (a + b)) :: rest))) : W p l e R s m args below meth c H locs cells slots Q (F0 m pc ls (.long (lZ b) :: .long (lZ a) :: rest)) := lv_ladd hx hb d (by rw [lZ_add]; exact k)
theorem z_lsub (hx : p.tables.exec = Jvm.exec) (hb : c.code = cc) (d : decode cc pc = .ok (.lsub, 1)) (k : W p l e R s m args below meth c H locs cells slots Q (F0 m (pc + 1) ls (.long (lZ (a - b)) :: rest))) : W p l e R s m args below meth c H locs cells slots Q (F0 m pc ls (.long (lZ b) :: .long (lZ a) :: rest)) := lv_lsub hx hb d (by rw [lZ_sub]; exact k)
theorem z_lmul (hx : p.tables.exec = Jvm.exec) (hb : c.code = cc) (d : decode cc pc = .ok (.lmul, 1)) (k : W p l e R s m args below meth c H locs cells slots Q (F0 m (pc + 1) ls (.long (lZ (a * b)) :: rest))) : W p l e R s m args below meth c H locs cells slots Q (F0 m pc ls (.long (lZ b) :: .long (lZ a) :: rest)) := lv_lmul hx hb d (by rw [lZ_mul]; exact k)
theorem z_ldiv (hx : p.tables.exec = Jvm.exec) (hb : c.code = cc) (d : decode cc pc = .ok (.ldiv, 1)) (h : (0 ≤ a ∧ a < 9223372036854775808) ∧ 0 < b ∧ b < 9223372036854775808) (k : W p l e R s m args below meth c H locs cells slots Q (F0 m (pc + 1) ls (.long (lZ (a / b)) :: rest))) : W p l e R s m args below meth c H locs cells slots Q (F0 m pc ls (.long (lZ b) :: .long (lZ a) :: rest)) := lv_ldiv hx hb d (by rw [show (0 : Int64) = lZ 0 by decide +kernel, lZ_eq (by omega)]; omega) (by rw [lZ_div h.1 h.2]; exact k)
theorem z_i2l (hx : p.tables.exec = Jvm.exec) (hb : c.code = cc) (d : decode cc pc = .ok (.i2l, 1)) (h : -2147483648 ≤ a ∧ a < 2147483648) (k : W p l e R s m args below meth c H locs cells slots Q (F0 m (pc + 1) ls (.long (lZ a) :: rest))) : W p l e R s m args below meth c H locs cells slots Q (F0 m pc ls (.int (iZ a) :: rest)) := lv_i2l hx hb d (iZ_l h) k
theorem z_l2i (hx : p.tables.exec = Jvm.exec) (hb : c.code = cc) (d : decode cc pc = .ok (.l2i, 1)) (k : W p l e R s m args below meth c H locs cells slots Q (F0 m (pc + 1) ls (.int (iZ a) :: rest))) : W p l e R s m args below meth c H locs cells slots Q (F0 m pc ls (.long (lZ a) :: rest)) := lv_l2i hx hb d (lZ_i a) k
theorem z_lushr (hx : p.tables.exec = Jvm.exec) (hb : c.code = cc) (d : decode cc pc = .ok (.lushr, 1)) (h : (0 ≤ a ∧ a < 9223372036854775808) ∧ 0 ≤ b ∧ b < 64) (k : W p l e R s m args below meth c H locs cells slots Q (F0 m (pc + 1) ls (.long (lZ (a / pw b)) :: rest))) : W p l e R s m args below meth c H locs cells slots Q (F0 m pc ls (.int (iZ b) :: .long (lZ a) :: rest)) := lv_lushr hx hb d (lZ_shr h.1 h.2) k
theorem z_lshl (hx : p.tables.exec = Jvm.exec) (hb : c.code = cc) (d : decode cc pc = .ok (.lshl, 1)) (h : 0 ≤ a ∧ 0 ≤ b ∧ b < 64) (k : W p l e R s m args below meth c H locs cells slots Q (F0 m (pc + 1) ls (.long (lZ (a * pw b)) :: rest))) : W p l e R s m args below meth c H locs cells slots Q (F0 m pc ls (.int (iZ b) :: .long (lZ a) :: rest)) := lv_lshl hx hb d (lZ_shl h.1 h.2) k
theorem z_mask {k : Int} (hx : p.tables.exec = Jvm.exec) (hb : c.code = cc) (d : decode cc pc = .ok (.land, 1)) (eq : b = pw k - 1) (h : (0 ≤ a ∧ a < 9223372036854775808) ∧ 0 ≤ k ∧ k < 64) (kk : W p l e R s m args below meth c H locs cells slots Q (F0 m (pc + 1) ls (.long (lZ (a % pw k)) :: rest))) : W p l e R s m args below meth c H locs cells slots Q (F0 m pc ls (.long (lZ b) :: .long (lZ a) :: rest)) := lv_land hx hb d (by rw [eq, lZ_mask h.1 h.2]; exact kk)
theorem z_lor {k : Int} (hx : p.tables.exec = Jvm.exec) (hb : c.code = cc) (d : decode cc pc = .ok (.lor, 1)) (h : (0 ≤ k ∧ k < 63) ∧ (0 ≤ a ∧ a * pw k + b < 9223372036854775808) ∧ 0 ≤ b ∧ b < pw k) (kk : W p l e R s m args below meth c H locs cells slots Q (F0 m (pc + 1) ls (.long (lZ (a * pw k + b)) :: rest))) : W p l e R s m args below meth c H locs cells slots Q (F0 m pc ls (.long (lZ b) :: .long (lZ (a * pw k)) :: rest)) := lv_lor hx hb d (by rw [lZ_or h.1 h.2.1 h.2.2]; exact kk)
/-- the top number, written otherwise -/
theorem z_top (eq : a = b) (k : W p l e R s m args below meth c H locs cells slots Q (F0 m pc ls (.int (iZ b) :: rest))) : W p l e R s m args below meth c H locs cells slots Q (F0 m pc ls (.int (iZ a) :: rest)) := by subst eq; exact k
theorem z_topl (eq : a = b) (k : W p l e R s m args below meth c H locs cells slots Q (F0 m pc ls (.long (lZ b) :: rest))) : W p l e R s m args below meth c H locs cells slots Q (F0 m pc ls (.long (lZ a) :: rest)) := by subst eq; exact k
theorem z_tope (k : ∀ b : Int, b = a → W p l e R s m args below meth c H locs cells slots Q (F0 m pc ls (.int (iZ b) :: rest))) : W p l e R s m args below meth c H locs cells slots Q (F0 m pc ls (.int (iZ a) :: rest)) := k a rfl
theorem z_topel (k : ∀ b : Int, b = a → W p l e R s m args below meth c H locs cells slots Q (F0 m pc ls (.long (lZ b) :: rest))) : W p l e R s m args below meth c H locs cells slots Q (F0 m pc ls (.long (lZ a) :: rest)) := k a rfl
theorem z_icmp_lt (hx : p.tables.exec = Jvm.exec) (hb : c.code = cc) {off : Int} {tgt : Nat} (d : decode cc pc = .ok (.if_icmp .lt off, 3)) (ht : (pc : Int) + off = (tgt : Int)) (h : -2147483648 ≤ a ∧ a < 2147483648 ∧ -2147483648 ≤ b ∧ b < 2147483648) (kt : a < b → W p l e R s m args below meth c H locs cells slots Q (F0 m tgt ls rest)) (kf : b ≤ a → W p l e R s m args below meth c H locs cells slots Q (F0 m (pc + 3) ls rest)) : W p l e R s m args below meth c H locs cells slots Q (F0 m pc ls (.int (iZ b) :: .int (iZ a) :: rest)) := by
  refine lv_icmp_lt hx hb d ht (fun q => kt ?_) (fun q => kf ?_)
  all_goals
    skip
    skip
    have h' : -2147483648 ≤ b ∧ b < 2147483648 ∧ -2147483648 ≤ a ∧ a < 2147483648 := by omega
    first | rw [iZ_lt h] at q | rw [iZ_le h] at q | rw [iZ_eq h] at q | rw [iZ_lt h'] at q | rw [iZ_le h'] at q | rw [iZ_eq h'] at q
    omega
theorem z_if_lt (hx : p.tables.exec = Jvm.exec) (hb : c.code = cc) {off : Int} {tgt : Nat} (d : decode cc pc = .ok (.ifCond .lt off, 3)) (ht : (pc : Int) + off = (tgt : Int)) (h : -2147483648 ≤ a ∧ a < 2147483648) (kt : a < 0 → W p l e R s m args below meth c H locs cells slots Q (F0 m tgt ls rest)) (kf : 0 ≤ a → W p l e R s m args below meth c H locs cells slots Q (F0 m (pc + 3) ls rest)) : W p l e R s m args below meth c H locs cells slots Q (F0 m pc ls (.int (iZ a) :: rest)) := by
  refine lv_if_lt hx hb d ht (fun q => kt ?_) (fun q => kf ?_)
  all_goals
    rw [iZ_0] at q
    have h : -2147483648 ≤ a ∧ a < 2147483648 ∧ -2147483648 ≤ (0 : Int) ∧ (0 : Int) < 2147483648 := by omega
    have h' : -2147483648 ≤ (0 : Int) ∧ (0 : Int) < 2147483648 ∧ -2147483648 ≤ a ∧ a < 2147483648 := by omega
    first | rw [iZ_lt h] at q | rw [iZ_le h] at q | rw [iZ_eq h] at q | rw [iZ_lt h'] at q | rw [iZ_le h'] at q | rw [iZ_eq h'] at q
    omega
theorem z_icmp_ge (hx : p.tables.exec = Jvm.exec) (hb : c.code = cc) {off : Int} {tgt : Nat} (d : decode cc pc = .ok (.if_icmp .ge off, 3)) (ht : (pc : Int) + off = (tgt : Int)) (h : -2147483648 ≤ a ∧ a < 2147483648 ∧ -2147483648 ≤ b ∧ b < 2147483648) (kt : b ≤ a → W p l e R s m args below meth c H locs cells slots Q (F0 m tgt ls rest)) (kf : a < b → W p l e R s m args below meth c H locs cells slots Q (F0 m (pc + 3) ls rest)) : W p l e R s m args below meth c H locs cells slots Q (F0 m pc ls (.int (iZ b) :: .int (iZ a) :: rest)) := by
  refine lv_icmp_ge hx hb d ht (fun q => kt ?_) (fun q => kf ?_)
  all_goals
    skip
    skip
    have h' : -2147483648 ≤ b ∧ b < 2147483648 ∧ -2147483648 ≤ a ∧ a < 2147483648 := by omega
    first | rw [iZ_lt h] at q | rw [iZ_le h] at q | rw [iZ_eq h] at q | rw [iZ_lt h'] at q | rw [iZ_le h'] at q | rw [iZ_eq h'] at q
    omega
theorem z_if_ge (hx : p.tables.exec = Jvm.exec) (hb : c.code = cc) {off : Int} {tgt : Nat} (d : decode cc pc = .ok (.ifCond .ge off, 3)) (ht : (pc : Int) + off = (tgt : Int)) (h : -2147483648 ≤ a ∧ a < 2147483648) (kt : 0 ≤ a → W p l e R s m args below meth c H locs cells slots Q (F0 m tgt ls rest)) (kf : a < 0 → W p l e R s m args below meth c H locs cells slots Q (F0 m (pc + 3) ls rest)) : W p l e R s m args below meth c H locs cells slots Q (F0 m pc ls (.int (iZ a) :: rest)) := by
  refine lv_if_ge hx hb d ht (fun q => kt ?_) (fun q => kf ?_)
  all_goals
    rw [iZ_0] at q
    have h : -2147483648 ≤ a ∧ a < 2147483648 ∧ -2147483648 ≤ (0 : Int) ∧ (0 : Int) < 2147483648 := by omega
    have h' : -2147483648 ≤ (0 : Int) ∧ (0 : Int) < 2147483648 ∧ -2147483648 ≤ a ∧ a < 2147483648 := by omega
    first | rw [iZ_lt h] at q | rw [iZ_le h] at q | rw [iZ_eq h] at q | rw [iZ_lt h'] at q | rw [iZ_le h'] at q | rw [iZ_eq h'] at q
    omega
theorem z_icmp_gt (hx : p.tables.exec = Jvm.exec) (hb : c.code = cc) {off : Int} {tgt : Nat} (d : decode cc pc = .ok (.if_icmp .gt off, 3)) (ht : (pc : Int) + off = (tgt : Int)) (h : -2147483648 ≤ a ∧ a < 2147483648 ∧ -2147483648 ≤ b ∧ b < 2147483648) (kt : b < a → W p l e R s m args below meth c H locs cells slots Q (F0 m tgt ls rest)) (kf : a ≤ b → W p l e R s m args below meth c H locs cells slots Q (F0 m (pc + 3) ls rest)) : W p l e R s m args below meth c H locs cells slots Q (F0 m pc ls (.int (iZ b) :: .int (iZ a) :: rest)) := by
  refine lv_icmp_gt hx hb d ht (fun q => kt ?_) (fun q => kf ?_)
  all_goals
    skip
    skip
    have h' : -2147483648 ≤ b ∧ b < 2147483648 ∧ -2147483648 ≤ a ∧ a < 2147483648 := by omega
    first | rw [iZ_lt h] at q | rw [iZ_le h] at q | rw [iZ_eq h] at q | rw [iZ_lt h'] at q | rw [iZ_le h'] at q | rw [iZ_eq h'] at q
    omega
theorem z_if_gt (hx : p.tables.exec = Jvm.exec) (hb : c.code = cc) {off : Int} {tgt : Nat} (d : decode cc pc = .ok (.ifCond .gt off, 3)) (ht : (pc : Int) + off = (tgt : Int)) (h : -2147483648 ≤ a ∧ a < 2147483648) (kt : 0 < a → W p l e R s m args below meth c H locs cells slots Q (F0 m tgt ls rest)) (kf : a ≤ 0 → W p l e R s m args below meth c H locs cells slots Q (F0 m (pc + 3) ls rest)) : W p l e R s m args below meth c H locs cells slots Q (F0 m pc ls (.int (iZ a) :: rest)) := by
  refine lv_if_gt hx hb d ht (fun q => kt ?_) (fun q => kf ?_)
  all_goals
    rw [iZ_0] at q
    have h : -2147483648 ≤ a ∧ a < 2147483648 ∧ -2147483648 ≤ (0 : Int) ∧ (0 : Int) < 2147483648 := by omega
    have h' : -2147483648 ≤ (0 : Int) ∧ (0 : Int) < 2147483648 ∧ -2147483648 ≤ a ∧ a < 2147483648 := by omega
    first | rw [iZ_lt h] at q | rw [iZ_le h] at q | rw [iZ_eq h] at q | rw [iZ_lt h'] at q | rw [iZ_le h'] at q | rw [iZ_eq h'] at q
    omega
theorem z_icmp_le (hx : p.tables.exec = Jvm.exec) (hb : c.code = cc) {off : Int} {tgt : Nat} (d : decode cc pc = .ok (.if_icmp .le off, 3)) (ht : (pc : Int) + off = (tgt : Int)) (h : -2147483648 ≤ a ∧ a < 2147483648 ∧ -2147483648 ≤ b ∧ b < 2147483648) (kt : a ≤ b → W p l e R s m args below meth c H locs cells slots Q (F0 m tgt ls rest)) (kf : b < a → W p l e R s m args below meth c H locs cells slots Q (F0 m (pc + 3) ls rest)) : W p l e R s m args below meth c H locs cells slots Q (F0 m pc ls (.int (iZ b) :: .int (iZ a) :: rest)) := by
  refine lv_icmp_le hx hb d ht (fun q => kt ?_) (fun q => kf ?_)
  all_goals
    skip
    skip
    have h' : -2147483648 ≤ b ∧ b < 2147483648 ∧ -2147483648 ≤ a ∧ a < 2147483648 := by omega
    first | rw [iZ_lt h] at q | rw [iZ_le h] at q | rw [iZ_eq h] at q | rw [iZ_lt h'] at q | rw [iZ_le h'] at q | rw [iZ_eq h'] at q
    omega
theorem z_if_le (hx : p.tables.exec = Jvm.exec) (hb : c.code = cc) {off : Int} {tgt : Nat} (d : decode cc pc = .ok (.ifCond .le off, 3)) (ht : (pc : Int) + off = (tgt : Int)) (h : -2147483648 ≤ a ∧ a < 2147483648) (kt : a ≤ 0 → W p l e R s m args below meth c H locs cells slots Q (F0 m tgt ls rest)) (kf : 0 < a → W p l e R s m args below meth c H locs cells slots Q (F0 m (pc + 3) ls rest)) : W p l e R s m args below meth c H locs cells slots Q (F0 m pc ls (.int (iZ a) :: rest)) := by
  refine lv_if_le hx hb d ht (fun q => kt ?_) (fun q => kf ?_)
  all_goals
    rw [iZ_0] at q
    have h : -2147483648 ≤ a ∧ a < 2147483648 ∧ -2147483648 ≤ (0 : Int) ∧ (0 : Int) < 2147483648 := by omega
    have h' : -2147483648 ≤ (0 : Int) ∧ (0 : Int) < 2147483648 ∧ -2147483648 ≤ a ∧ a < 2147483648 := by omega
    first | rw [iZ_lt h] at q | rw [iZ_le h] at q | rw [iZ_eq h] at q | rw [iZ_lt h'] at q | rw [iZ_le h'] at q | rw [iZ_eq h'] at q
    omega
theorem z_icmp_eq (hx : p.tables.exec = Jvm.exec) (hb : c.code = cc) {off : Int} {tgt : Nat} (d : decode cc pc = .ok (.if_icmp .eq off, 3)) (ht : (pc : Int) + off = (tgt : Int)) (h : -2147483648 ≤ a ∧ a < 2147483648 ∧ -2147483648 ≤ b ∧ b < 2147483648) (kt : a = b → W p l e R s m args below meth c H locs cells slots Q (F0 m tgt ls rest)) (kf : ¬ a = b → W p l e R s m args below meth c H locs cells slots Q (F0 m (pc + 3) ls rest)) : W p l e R s m args below meth c H locs cells slots Q (F0 m pc ls (.int (iZ b) :: .int (iZ a) :: rest)) := by
  refine lv_icmp_eq hx hb d ht (fun q => kt ?_) (fun q => kf ?_)
  all_goals
    skip
    skip
    have h' : -2147483648 ≤ b ∧ b < 2147483648 ∧ -2147483648 ≤ a ∧ a < 2147483648 := by omega
    first | rw [iZ_lt h] at q | rw [iZ_le h] at q | rw [iZ_eq h] at q | rw [iZ_lt h'] at q | rw [iZ_le h'] at q | rw [iZ_eq h'] at q
    omega
theorem z_if_eq (hx : p.tables.exec = Jvm.exec) (hb : c.code = cc) {off : Int} {tgt : Nat} (d : decode cc pc = .ok (.ifCond .eq off, 3)) (ht : (pc : Int) + off = (tgt : Int)) (h : -2147483648 ≤ a ∧ a < 2147483648) (kt : a = 0 → W p l e R s m args below meth c H locs cells slots Q (F0 m tgt ls rest)) (kf : ¬ a = 0 → W p l e R s m args below meth c H locs cells slots Q (F0 m (pc + 3) ls rest)) : W p l e R s m args below meth c H locs cells slots Q (F0 m pc ls (.int (iZ a) :: rest)) := by
  refine lv_if_eq hx hb d ht (fun q => kt ?_) (fun q => kf ?_)
  all_goals
    rw [iZ_0] at q
    have h : -2147483648 ≤ a ∧ a < 2147483648 ∧ -2147483648 ≤ (0 : Int) ∧ (0 : Int) < 2147483648 := by omega
    have h' : -2147483648 ≤ (0 : Int) ∧ (0 : Int) < 2147483648 ∧ -2147483648 ≤ a ∧ a < 2147483648 := by omega
    first | rw [iZ_lt h] at q | rw [iZ_le h] at q | rw [iZ_eq h] at q | rw [iZ_lt h'] at q | rw [iZ_le h'] at q | rw [iZ_eq h'] at q
    omega
theorem z_icmp_ne (hx : p.tables.exec = Jvm.exec) (hb : c.code = cc) {off : Int} {tgt : Nat} (d : decode cc pc = .ok (.if_icmp .ne off, 3)) (ht : (pc : Int) + off = (tgt : Int)) (h : -2147483648 ≤ a ∧ a < 2147483648 ∧ -2147483648 ≤ b ∧ b < 2147483648) (kt : ¬ a = b → W p l e R s m args below meth c H locs cells slots Q (F0 m tgt ls rest)) (kf : a = b → W p l e R s m args below meth c H locs cells slots Q (F0 m (pc + 3) ls rest)) : W p l e R s m args below meth c H locs cells slots Q (F0 m pc ls (.int (iZ b) :: .int (iZ a) :: rest)) := by
  refine lv_icmp_ne hx hb d ht (fun q => kt ?_) (fun q => kf ?_)
  all_goals
    skip
    skip
    have h' : -2147483648 ≤ b ∧ b < 2147483648 ∧ -2147483648 ≤ a ∧ a < 2147483648 := by omega
    first | rw [iZ_lt h] at q | rw [iZ_le h] at q | rw [iZ_eq h] at q | rw [iZ_lt h'] at q | rw [iZ_le h'] at q | rw [iZ_eq h'] at q
    omega
theorem z_if_ne (hx : p.tables.exec = Jvm.exec) (hb : c.code = cc) {off : Int} {tgt : Nat} (d : decode cc pc = .ok (.ifCond .ne off, 3)) (ht : (pc : Int) + off = (tgt : Int)) (h : -2147483648 ≤ a ∧ a < 2147483648) (kt : ¬ a = 0 → W p l e R s m args below meth c H locs cells slots Q (F0 m tgt ls rest)) (kf : a = 0 → W p l e R s m args below meth c H locs cells slots Q (F0 m (pc + 3) ls rest)) : W p l e R s m args below meth c H locs cells slots Q (F0 m pc ls (.int (iZ a) :: rest)) := by
  refine lv_if_ne hx hb d ht (fun q => kt ?_) (fun q => kf ?_)
  all_goals
    rw [iZ_0] at q
    have h : -2147483648 ≤ a ∧ a < 2147483648 ∧ -2147483648 ≤ (0 : Int) ∧ (0 : Int) < 2147483648 := by omega
    have h' : -2147483648 ≤ (0 : Int) ∧ (0 : Int) < 2147483648 ∧ -2147483648 ≤ a ∧ a < 2147483648 := by omega
    first | rw [iZ_lt h] at q | rw [iZ_le h] at q | rw [iZ_eq h] at q | rw [iZ_lt h'] at q | rw [iZ_le h'] at q | rw [iZ_eq h'] at q
    omega
theorem z_ifB_eq {P : Prop} (hx : p.tables.exec = Jvm.exec) (hb : c.code = cc) {off : Int} {tgt : Nat} (d : decode cc pc = .ok (.ifCond .eq off, 3)) (ht : (pc : Int) + off = (tgt : Int)) (kt : ¬ P → W p l e R s m args below meth c H locs cells slots Q (F0 m tgt ls rest)) (kf : P → W p l e R s m args below meth c H locs cells slots Q (F0 m (pc + 3) ls rest)) : W p l e R s m args below meth c H locs cells slots Q (F0 m pc ls (.int (iZ (bv P)) :: rest)) := by
  refine z_if_eq hx hb d ht (by have := bv_r P; omega) (fun q => kt ?_) (fun q => kf ?_)
  all_goals
    rcases Classical.em P with h | h
    · have := bv_t h; first | exact h | (exfalso; omega)
    · have := bv_f h; first | exact h | (exfalso; omega)
theorem z_ifB_ne {P : Prop} (hx : p.tables.exec = Jvm.exec) (hb : c.code = cc) {off : Int} {tgt : Nat} (d : decode cc pc = .ok (.ifCond .ne off, 3)) (ht : (pc : Int) + off = (tgt : Int)) (kt : P → W p l e R s m args below meth c H locs cells slots Q (F0 m tgt ls rest)) (kf : ¬ P → W p l e R s m args below meth c H locs cells slots Q (F0 m (pc + 3) ls rest)) : W p l e R s m args below meth c H locs cells slots Q (F0 m pc ls (.int (iZ (bv P)) :: rest)) := by
  refine z_if_ne hx hb d ht (by have := bv_r P; omega) (fun q => kt ?_) (fun q => kf ?_)
  all_goals
    rcases Classical.em P with h | h
    · have := bv_t h; first | exact h | (exfalso; omega)
    · have := bv_f h; first | exact h | (exfalso; omega)
theorem z_lcmp (hx : p.tables.exec = Jvm.exec) (hb : c.code = cc) (d : decode cc pc = .ok (.lcmp, 1)) (h : -9223372036854775808 ≤ a ∧ a < 9223372036854775808 ∧ -9223372036854775808 ≤ b ∧ b < 9223372036854775808) (k : ∀ t : Int, (t = -1 ∧ a < b ∨ t = 0 ∧ a = b ∨ t = 1 ∧ b < a) → W p l e R s m args below meth c H locs cells slots Q (F0 m (pc + 1) ls (.int (iZ t) :: rest))) : W p l e R s m args below meth c H locs cells slots Q (F0 m pc ls (.long (lZ b) :: .long (lZ a) :: rest)) := by
  refine W.lcmp hx hb d ?_
  have e : lg_cmp (lZ a) (lZ b) = iZ (if b < a then 1 else if a = b then 0 else -1) := by
    unfold lg_cmp
    have h1 : lZ a > lZ b ↔ b < a := lZ_lt (by omega)
    have h2 := lZ_eq h
    by_cases q1 : b < a
    · rw [if_pos q1, if_pos (h1.mpr q1)]; rfl
    · rw [if_neg q1, if_neg (fun z => q1 (h1.mp z))]
      by_cases q2 : a = b
      · rw [if_pos q2, if_pos (h2.mpr q2)]; rfl
      · rw [if_neg q2, if_neg (fun z => q2 (h2.mp z))]; rfl
  rw [e]
  refine k _ ?_
  split
  · omega
  · split <;> omega
end ZR
/-! the contracts of this claim -/
def zNs : List Cond := [.methodLinkNest RX5 62 yX6_commonDivisor "SturmianWords", .methodLinkNest RX3 21 yX6_quotient "SturmianWords", .methodLinkNest RX6 9 yX1_init "SturmianWords", .methodLinkNest RX6 18 yX0_init "SturmianWords", .fieldLinkNest RX2 53 "SturmianWords$Word" "size" "I" "SturmianWords", .fieldLinkNest RX0 43 "SturmianWords$Slope" "numerator" "I" "SturmianWords", .fieldLinkNest RX0 29 "SturmianWords$Slope" "denominator" "I" "SturmianWords", .fieldLinkNest RX6 96 "SturmianWords$State" "word" "LSturmianWords$Word;" "SturmianWords", .fieldLinkNest RX6 93 "SturmianWords$Word" "size" "I" "SturmianWords", .fieldLinkNest RX6 65 "SturmianWords$Slope" "intercept" "I" "SturmianWords", .fieldLinkNest RX6 62 "SturmianWords$Slope" "numerator" "I" "SturmianWords", .fieldLinkNest RX6 58 "SturmianWords$Slope" "denominator" "I" "SturmianWords", .fieldLinkNest RX6 54 "SturmianWords$State" "slope" "LSturmianWords$Slope;" "SturmianWords", .fieldLinkNest RX6 127 "SturmianWords$History" "kept" "I" "SturmianWords", .fieldLinkNest RX6 100 "SturmianWords$Word" "bits" "J" "SturmianWords"]
theorem zNs_tab : ∀ w ∈ zNs, w.onTables = true := by decide +kernel
theorem zNs_warm {s U : State} (hW : s.WarmedH U.vm) (h : ∀ w ∈ zNs, va_Nw w s) : ∀ w ∈ zNs, va_Nw w U := by
  have q : ∀ (w : Cond), va_Nw w s → (∃ a i b n d h, w = .fieldLinkNest a i b n d h) ∨ (∃ a i x h, w = .methodLinkNest a i x h) → va_Nw w U := by
    rintro w hw (⟨a, i, b, n, d, h, rfl⟩ | ⟨a, i, x, h, rfl⟩)
    · exact va_Nw.warmF hW hw
    · exact va_Nw.warmM hW hw
  intro w hw
  refine q w (h w hw) ?_
  simp only [zNs, List.mem_cons, List.not_mem_nil, or_false] at hw
  rcases hw with rfl | rfl | rfl | rfl | rfl | rfl | rfl | rfl | rfl | rfl | rfl | rfl | rfl | rfl | rfl
  all_goals first | exact Or.inl ⟨_, _, _, _, _, _, rfl⟩ | exact Or.inr ⟨_, _, _, _, rfl⟩
def tyS (cy : Nat → ClassId) : List (ClassId × FieldType) := [(cy 0, .int), (cy 1, .boolean), (cy 2, .object "SturmianWords$State")]
def KK (G : va_G) (cy : Nat → ClassId) (U : State) : Prop := va_K G vwCl (tyS cy) U ∧ ∀ w ∈ zNs, va_Nw w U
theorem KK.warm {G : va_G} {cy : Nat → ClassId} {s U : State} (h : KK G cy s) (hW : s.WarmedH U.vm) : KK G cy U := ⟨va_K.moved hW.alike h.1, zNs_warm hW h.2⟩
theorem KK.same {G : va_G} {cy : Nat → ClassId} {s U : State} (h : KK G cy s) (e : s.vm = U.vm) : KK G cy U := ⟨va_K.moved (by rw [e]; exact Vm.Alike.refl _) h.1, fun w hw => va_Nw.same (zNs_tab w hw) e (h.2 w hw)⟩
/-- a contract's start: the tables, the arguments, the heap -/
def P1 (G : va_G) (cy : Nat → ClassId) (av : List Value) (B : Heap → Prop) : Array Value → State → Prop := fun v U => v = av.toArray ∧ KK G cy U ∧ B U.heap
theorem P1_blind {G : va_G} {cy : Nat → ClassId} {av : List Value} {B : Heap → Prop} : FrameBlind (P1 G cy av B) := fun _ _ _ _ h => ⟨h.1, h.2.1.same rfl, h.2.2⟩
theorem P1_mk {G : va_G} {cy : Nat → ClassId} {av : List Value} {B : Heap → Prop} {s : State} {H : Heap} (hK : KK G cy s) (hB : B H) : ∀ U : State, U.heap = H → s.WarmedH U.vm → P1 G cy av B av.toArray U := fun U hU hW => ⟨rfl, hK.warm hW, by rw [hU]; exact hB⟩
theorem z_head {l : Launch} {y : MethodName} {ws ws' : List Cond} {rm : Room} {G : va_G} {cy : Nat → ClassId} {av : List Value} {B : Heap → Prop} {Qc : Array Value → State → Outcome → State → Prop} {mc ms : Nat} {free : Addr → Prop} {cc : ByteArray} {maxL : Nat} {ret : Option FieldType} {lv : List (Nat × Value)} (C : String) (hy : plainName y.cls = true) (hyc : y.cls = C) (hw : ws = Cond.code y cc maxL ret :: ws') (hn : (lg_sl av).length ≤ maxL) (hlv : lv_args 0 av = lv)
    (body : ∀ (p : Program) (e : Env) (s : State) (m : MethodId) (below : List Frame) (meth : Method) (c : Code) (ls : Array Slot), p.tables.exec = Jvm.exec → c.code = cc → meth.sig.returnType = ret → meth.locks = false → c.maxLocals = maxL → s.vm.findClass C = some m.cls → meth.name = y.name → (∀ w ∈ ws, w.before av.toArray s = true) → KK G cy s → B s.heap → lv_has ls maxL lv → W p l e rm s m av.toArray below meth c s.heap [] 0 0 (MQ below Qc av.toArray s mc ms free) (F0 m 0 ls [])) : Met l y ws rm (P1 G cy av B) Qc mc ms free := by
  refine Met.ofW (cc := cc) (maxL := maxL) (ret := ret) hy hw ?_
  intro p e s m args below meth c s₁ Bo hml hv
  obtain ⟨rfl, hK, hB⟩ := hv
  have hts := atoms_spec (ws := ws) Bo.pre
  have hown : s.vm.findClass C = some m.cls := hyc ▸ findClass_of_methodNamed Bo.named
  rw [lg_entry_eq]
  exact body p e s m below meth c _ Bo.exec Bo.bytes Bo.returns Bo.notSynchronized hml hown (name_of_methodNamed Bo.named Bo.method).1 hts hK hB (hlv ▸ lv_entry av hn)
/-- what an effectful method does: its answer, the heap before and behind -/
def Q1 (Rr : Option Value → Heap → Heap → Prop) : Array Value → State → Outcome → State → Prop := fun _ st o t => ∃ v : Option Value, o = .returned v ∧ Rr v st.heap t.heap
section ZC
variable {p : Program} {l : Launch} {e : Env} {R : Room} {s : State} {m : MethodId} {args : Array Value} {below : List Frame} {meth : Method} {c : Code} {H : Heap} {locs : List Loc} {cells slots : Nat} {Q : State → Prop}
variable {cc : ByteArray} {pc : Nat} {ls : Array Slot} {rest st0 : List Value} {a E : Int} {arr : Array Value} {mc ms : Nat} {free : Addr → Prop}
theorem z_calli (hr : va_Run p l e R s m args below meth c H locs cells slots 0 0 (F0 m pc ls st0) rest (vp_Si (fun r => r = iZ E) arr) (fun _ => False)) (kk : W p l e R s m args below meth c H locs cells slots Q (F0 m (pc + 3) ls (.int (iZ E) :: rest))) : W p l e R s m args below meth c H locs cells slots Q (F0 m pc ls st0) := vp_callSi hr.run (fun r h => by subst h; exact kk)
theorem z_calll (hr : va_Run p l e R s m args below meth c H locs cells slots 0 0 (F0 m pc ls st0) rest (vp_Sl (fun r => r = lZ E) arr) (fun _ => False)) (kk : W p l e R s m args below meth c H locs cells slots Q (F0 m (pc + 3) ls (.long (lZ E) :: rest))) : W p l e R s m args below meth c H locs cells slots Q (F0 m pc ls st0) := vp_callSl hr.run (fun r h => by subst h; exact kk)
theorem z_iretP (hx : p.tables.exec = Jvm.exec) (hb : c.code = cc) (hr : meth.sig.returnType = some .int) (hlocks : meth.locks = false) (d : decode cc pc = .ok (.ireturn, 1)) (h : a = E) : W p l e R s m args below meth c s.heap [] 0 0 (MQ below (vp_Si (fun r => r = iZ E)) args s 0 0 (fun _ => False)) (F0 m pc ls [.int (iZ a)]) := W.iret hx hb hr (fun t ht hW => ⟨_, rfl, by rw [h], ht⟩) (fun _ h => absurd h List.not_mem_nil) d hlocks
theorem z_zretP {P : Prop} (hx : p.tables.exec = Jvm.exec) (hb : c.code = cc) (hr : meth.sig.returnType = some .boolean) (hlocks : meth.locks = false) (d : decode cc pc = .ok (.ireturn, 1)) (h : a = bv P) : W p l e R s m args below meth c s.heap [] 0 0 (MQ below (vp_Si (fun r => r = iZ (bv P))) args s 0 0 (fun _ => False)) (F0 m pc ls [.int (iZ a)]) := W.zret hx hb hr (by rw [h]; exact bv_zr P) (fun t ht hW => ⟨_, rfl, by rw [h], ht⟩) (fun _ h => absurd h List.not_mem_nil) d hlocks
theorem z_lretP (hx : p.tables.exec = Jvm.exec) (hb : c.code = cc) (hr : meth.sig.returnType = some .long) (hlocks : meth.locks = false) (d : decode cc pc = .ok (.lreturn, 1)) (h : a = E) : W p l e R s m args below meth c s.heap [] 0 0 (MQ below (vp_Sl (fun r => r = lZ E)) args s 0 0 (fun _ => False)) (F0 m pc ls [.long (lZ a)]) := W.lret hx hb hr (fun t ht hW => ⟨_, rfl, by rw [h], ht⟩) (fun _ h => absurd h List.not_mem_nil) d hlocks
theorem z_callE {Rr : Option Value → Heap → Heap → Prop} {A : Nat → Prop} (hr : va_Run p l e R s m args below meth c H locs cells slots mc ms (F0 m pc ls st0) rest (Q1 Rr arr) free) (hL : ∀ q ∈ locs, A q.base) (hf : ∀ q, free q → A q) (kk : ∀ (v : Option Value) (H1 : Heap) (locs1 : List Loc), Rr v H H1 → (∀ q ∈ locs1, A q.base) → W p l e R s m args below meth c H1 locs1 (cells + mc) (slots + ms) Q (F0 m (pc + 3) ls (v.toList ++ rest))) : W p l e R s m args below meth c H locs cells slots Q (F0 m pc ls st0) := by
  intro T hT X
  obtain ⟨v, st₀, t, T', L, h0, X', hL1, e1, e2, ⟨v', hv, hp⟩, st⟩ := hr T hT X
  cases hv
  rw [h0, ← e1] at hp
  obtain ⟨t2, a1, b1⟩ := kk v T'.heap (locs ++ L) hp (fun q hq => by
    rcases List.mem_append.mp hq with h | h
    · exact hL q h
    · exact hf _ (hL1 q h)) T' rfl X'
  exact ⟨t2, st t2 a1, b1⟩
theorem z_iretE {Rr : Option Value → Heap → Heap → Prop} (hx : p.tables.exec = Jvm.exec) (hb : c.code = cc) (hr : meth.sig.returnType = some .int) (hlocks : meth.locks = false) (d : decode cc pc = .ok (.ireturn, 1)) (hL : ∀ q ∈ locs, free q.base) (hc : cells ≤ mc ∧ slots ≤ ms) (h : Rr (some (.int (iZ a))) s.heap H) : W p l e R s m args below meth c H locs cells slots (MQ below (Q1 Rr) args s mc ms free) (F0 m pc ls [.int (iZ a)]) := W.widen hc.1 hc.2 (W.iret hx hb hr (fun t ht hW => ⟨_, rfl, by rw [ht]; exact h⟩) hL d hlocks)
theorem z_vretE {Rr : Option Value → Heap → Heap → Prop} (hx : p.tables.exec = Jvm.exec) (hb : c.code = cc) (hr : meth.sig.returnType = none) (hlocks : meth.locks = false) (d : decode cc pc = .ok (.return_, 1)) (hL : ∀ q ∈ locs, free q.base) (hc : cells ≤ mc ∧ slots ≤ ms) (h : Rr none s.heap H) : W p l e R s m args below meth c H locs cells slots (MQ below (Q1 Rr) args s mc ms free) (F0 m pc ls []) := W.widen hc.1 hc.2 (W.vret hx hb hr (fun t ht hW => ⟨_, rfl, by rw [ht]; exact h⟩) hL d hlocks)
theorem z_aretE {Rr : Option Value → Heap → Heap → Prop} {v : Value} {rt : FieldType} (hx : p.tables.exec = Jvm.exec) (hb : c.code = cc) (hr : meth.sig.returnType = some rt) (hrt : (∃ n, rt = .object n) ∨ ∃ t, rt = .array t) (hlocks : meth.locks = false) (d : decode cc pc = .ok (.areturn, 1)) (hv : v = .null ∨ ∃ a, v = .ref a) (hL : ∀ q ∈ locs, free q.base) (hc : cells ≤ mc ∧ slots ≤ ms) (h : Rr (some v) s.heap H) : W p l e R s m args below meth c H locs cells slots (MQ below (Q1 Rr) args s mc ms free) (F0 m pc ls [v]) := W.widen hc.1 hc.2 (W.aret hx hb hr hrt hv (fun t ht hW => ⟨_, rfl, by rw [ht]; exact h⟩) hL d hlocks)
theorem z_zretE {P : Prop} {Rr : Option Value → Heap → Heap → Prop} (hx : p.tables.exec = Jvm.exec) (hb : c.code = cc) (hr : meth.sig.returnType = some .boolean) (hlocks : meth.locks = false) (d : decode cc pc = .ok (.ireturn, 1)) (hL : ∀ q ∈ locs, free q.base) (hc : cells ≤ mc ∧ slots ≤ ms) (h1 : a = bv P) (h : Rr (some (.int (iZ a))) s.heap H) : W p l e R s m args below meth c H locs cells slots (MQ below (Q1 Rr) args s mc ms free) (F0 m pc ls [.int (iZ a)]) := W.widen hc.1 hc.2 (W.zret hx hb hr (by rw [h1]; exact bv_zr P) (fun t ht hW => ⟨_, rfl, by rw [ht]; exact h⟩) hL d hlocks)
theorem z_loop1 {A1 : Type} {nL : Nat} (L : A1 → List (Nat × Value)) (I : A1 → Prop) (μ : A1 → Int) {a1 : A1} (h0 : I a1) (hl : lv_has ls nL (L a1)) (hs : ∀ (a1 : A1), I a1 → (∀ (b1 : A1), I b1 → (0 ≤ μ b1 ∧ μ b1 < μ a1) → ∀ ls : Array Slot, lv_has ls nL (L b1) → W p l e R s m args below meth c H locs cells slots Q (F0 m pc ls st0)) → ∀ ls : Array Slot, lv_has ls nL (L a1) → W p l e R s m args below meth c H locs cells slots Q (F0 m pc ls st0)) : W p l e R s m args below meth c H locs cells slots Q (F0 m pc ls st0) := by
  have key : ∀ (n : Nat) (a1 : A1), I a1 → (μ a1).toNat < n → ∀ ls : Array Slot, lv_has ls nL (L a1) → W p l e R s m args below meth c H locs cells slots Q (F0 m pc ls st0) := by
    intro n
    induction n with
    | zero => intro a1 _ h; exact absurd h (Nat.not_lt_zero _)
    | succ n ih => exact fun a1 hI hm => hs a1 hI (fun b1 hJ hc => ih b1 hJ (by omega))
  exact key _ a1 h0 (Nat.lt_succ_self _) ls hl
theorem z_loopH1 {A1 : Type} {nL : Nat} {A : Nat → Prop} (L : A1 → List (Nat × Value)) (I : A1 → Heap → Prop) (μ : A1 → Int) (C D : A1 → Nat) {a1 : A1} (h0 : I a1 H) (hL : ∀ q ∈ locs, A q.base) (hl : lv_has ls nL (L a1)) (hs : ∀ (a1 : A1) (H : Heap) (locs : List Loc), I a1 H → (∀ q ∈ locs, A q.base) → (∀ (b1 : A1) (H1 : Heap) (locs1 : List Loc), I b1 H1 → (∀ q ∈ locs1, A q.base) → (0 ≤ μ b1 ∧ μ b1 < μ a1) → ∀ ls : Array Slot, lv_has ls nL (L b1) → W p l e R s m args below meth c H1 locs1 (C b1) (D b1) Q (F0 m pc ls st0)) → ∀ ls : Array Slot, lv_has ls nL (L a1) → W p l e R s m args below meth c H locs (C a1) (D a1) Q (F0 m pc ls st0)) : W p l e R s m args below meth c H locs (C a1) (D a1) Q (F0 m pc ls st0) := by
  have key : ∀ (n : Nat) (a1 : A1) (H : Heap) (locs : List Loc), I a1 H → (∀ q ∈ locs, A q.base) → (μ a1).toNat < n → ∀ ls : Array Slot, lv_has ls nL (L a1) → W p l e R s m args below meth c H locs (C a1) (D a1) Q (F0 m pc ls st0) := by
    intro n
    induction n with
    | zero => intro a1 H locs _ _ h; exact absurd h (Nat.not_lt_zero _)
    | succ n ih => exact fun a1 H locs hI hA hm => hs a1 H locs hI hA (fun b1 H1 locs1 hJ hA1 hc => ih b1 H1 locs1 hJ hA1 (by omega))
  exact key _ a1 H locs h0 hL (Nat.lt_succ_self _) ls hl
theorem z_loop2 {A1 A2 : Type} {nL : Nat} (L : A1 → A2 → List (Nat × Value)) (I : A1 → A2 → Prop) (μ : A1 → A2 → Int) {a1 : A1} {a2 : A2} (h0 : I a1 a2) (hl : lv_has ls nL (L a1 a2)) (hs : ∀ (a1 : A1) (a2 : A2), I a1 a2 → (∀ (b1 : A1) (b2 : A2), I b1 b2 → (0 ≤ μ b1 b2 ∧ μ b1 b2 < μ a1 a2) → ∀ ls : Array Slot, lv_has ls nL (L b1 b2) → W p l e R s m args below meth c H locs cells slots Q (F0 m pc ls st0)) → ∀ ls : Array Slot, lv_has ls nL (L a1 a2) → W p l e R s m args below meth c H locs cells slots Q (F0 m pc ls st0)) : W p l e R s m args below meth c H locs cells slots Q (F0 m pc ls st0) := by
  have key : ∀ (n : Nat) (a1 : A1) (a2 : A2), I a1 a2 → (μ a1 a2).toNat < n → ∀ ls : Array Slot, lv_has ls nL (L a1 a2) → W p l e R s m args below meth c H locs cells slots Q (F0 m pc ls st0) := by
    intro n
    induction n with
    | zero => intro a1 a2 _ h; exact absurd h (Nat.not_lt_zero _)
    | succ n ih => exact fun a1 a2 hI hm => hs a1 a2 hI (fun b1 b2 hJ hc => ih b1 b2 hJ (by omega))
  exact key _ a1 a2 h0 (Nat.lt_succ_self _) ls hl
theorem z_loopH2 {A1 A2 : Type} {nL : Nat} {A : Nat → Prop} (L : A1 → A2 → List (Nat × Value)) (I : A1 → A2 → Heap → Prop) (μ : A1 → A2 → Int) (C D : A1 → A2 → Nat) {a1 : A1} {a2 : A2} (h0 : I a1 a2 H) (hL : ∀ q ∈ locs, A q.base) (hl : lv_has ls nL (L a1 a2)) (hs : ∀ (a1 : A1) (a2 : A2) (H : Heap) (locs : List Loc), I a1 a2 H → (∀ q ∈ locs, A q.base) → (∀ (b1 : A1) (b2 : A2) (H1 : Heap) (locs1 : List Loc), I b1 b2 H1 → (∀ q ∈ locs1, A q.base) → (0 ≤ μ b1 b2 ∧ μ b1 b2 < μ a1 a2) → ∀ ls : Array Slot, lv_has ls nL (L b1 b2) → W p l e R s m args below meth c H1 locs1 (C b1 b2) (D b1 b2) Q (F0 m pc ls st0)) → ∀ ls : Array Slot, lv_has ls nL (L a1 a2) → W p l e R s m args below meth c H locs (C a1 a2) (D a1 a2) Q (F0 m pc ls st0)) : W p l e R s m args below meth c H locs (C a1 a2) (D a1 a2) Q (F0 m pc ls st0) := by
  have key : ∀ (n : Nat) (a1 : A1) (a2 : A2) (H : Heap) (locs : List Loc), I a1 a2 H → (∀ q ∈ locs, A q.base) → (μ a1 a2).toNat < n → ∀ ls : Array Slot, lv_has ls nL (L a1 a2) → W p l e R s m args below meth c H locs (C a1 a2) (D a1 a2) Q (F0 m pc ls st0) := by
    intro n
    induction n with
    | zero => intro a1 a2 H locs _ _ h; exact absurd h (Nat.not_lt_zero _)
    | succ n ih => exact fun a1 a2 H locs hI hA hm => hs a1 a2 H locs hI hA (fun b1 b2 H1 locs1 hJ hA1 hc => ih b1 b2 H1 locs1 hJ hA1 (by omega))
  exact key _ a1 a2 H locs h0 hL (Nat.lt_succ_self _) ls hl
theorem z_loop3 {A1 A2 A3 : Type} {nL : Nat} (L : A1 → A2 → A3 → List (Nat × Value)) (I : A1 → A2 → A3 → Prop) (μ : A1 → A2 → A3 → Int) {a1 : A1} {a2 : A2} {a3 : A3} (h0 : I a1 a2 a3) (hl : lv_has ls nL (L a1 a2 a3)) (hs : ∀ (a1 : A1) (a2 : A2) (a3 : A3), I a1 a2 a3 → (∀ (b1 : A1) (b2 : A2) (b3 : A3), I b1 b2 b3 → (0 ≤ μ b1 b2 b3 ∧ μ b1 b2 b3 < μ a1 a2 a3) → ∀ ls : Array Slot, lv_has ls nL (L b1 b2 b3) → W p l e R s m args below meth c H locs cells slots Q (F0 m pc ls st0)) → ∀ ls : Array Slot, lv_has ls nL (L a1 a2 a3) → W p l e R s m args below meth c H locs cells slots Q (F0 m pc ls st0)) : W p l e R s m args below meth c H locs cells slots Q (F0 m pc ls st0) := by
  have key : ∀ (n : Nat) (a1 : A1) (a2 : A2) (a3 : A3), I a1 a2 a3 → (μ a1 a2 a3).toNat < n → ∀ ls : Array Slot, lv_has ls nL (L a1 a2 a3) → W p l e R s m args below meth c H locs cells slots Q (F0 m pc ls st0) := by
    intro n
    induction n with
    | zero => intro a1 a2 a3 _ h; exact absurd h (Nat.not_lt_zero _)
    | succ n ih => exact fun a1 a2 a3 hI hm => hs a1 a2 a3 hI (fun b1 b2 b3 hJ hc => ih b1 b2 b3 hJ (by omega))
  exact key _ a1 a2 a3 h0 (Nat.lt_succ_self _) ls hl
theorem z_loopH3 {A1 A2 A3 : Type} {nL : Nat} {A : Nat → Prop} (L : A1 → A2 → A3 → List (Nat × Value)) (I : A1 → A2 → A3 → Heap → Prop) (μ : A1 → A2 → A3 → Int) (C D : A1 → A2 → A3 → Nat) {a1 : A1} {a2 : A2} {a3 : A3} (h0 : I a1 a2 a3 H) (hL : ∀ q ∈ locs, A q.base) (hl : lv_has ls nL (L a1 a2 a3)) (hs : ∀ (a1 : A1) (a2 : A2) (a3 : A3) (H : Heap) (locs : List Loc), I a1 a2 a3 H → (∀ q ∈ locs, A q.base) → (∀ (b1 : A1) (b2 : A2) (b3 : A3) (H1 : Heap) (locs1 : List Loc), I b1 b2 b3 H1 → (∀ q ∈ locs1, A q.base) → (0 ≤ μ b1 b2 b3 ∧ μ b1 b2 b3 < μ a1 a2 a3) → ∀ ls : Array Slot, lv_has ls nL (L b1 b2 b3) → W p l e R s m args below meth c H1 locs1 (C b1 b2 b3) (D b1 b2 b3) Q (F0 m pc ls st0)) → ∀ ls : Array Slot, lv_has ls nL (L a1 a2 a3) → W p l e R s m args below meth c H locs (C a1 a2 a3) (D a1 a2 a3) Q (F0 m pc ls st0)) : W p l e R s m args below meth c H locs (C a1 a2 a3) (D a1 a2 a3) Q (F0 m pc ls st0) := by
  have key : ∀ (n : Nat) (a1 : A1) (a2 : A2) (a3 : A3) (H : Heap) (locs : List Loc), I a1 a2 a3 H → (∀ q ∈ locs, A q.base) → (μ a1 a2 a3).toNat < n → ∀ ls : Array Slot, lv_has ls nL (L a1 a2 a3) → W p l e R s m args below meth c H locs (C a1 a2 a3) (D a1 a2 a3) Q (F0 m pc ls st0) := by
    intro n
    induction n with
    | zero => intro a1 a2 a3 H locs _ _ h; exact absurd h (Nat.not_lt_zero _)
    | succ n ih => exact fun a1 a2 a3 H locs hI hA hm => hs a1 a2 a3 H locs hI hA (fun b1 b2 b3 H1 locs1 hJ hA1 hc => ih b1 b2 b3 H1 locs1 hJ hA1 (by omega))
  exact key _ a1 a2 a3 H locs h0 hL (Nat.lt_succ_self _) ls hl
theorem z_loop4 {A1 A2 A3 A4 : Type} {nL : Nat} (L : A1 → A2 → A3 → A4 → List (Nat × Value)) (I : A1 → A2 → A3 → A4 → Prop) (μ : A1 → A2 → A3 → A4 → Int) {a1 : A1} {a2 : A2} {a3 : A3} {a4 : A4} (h0 : I a1 a2 a3 a4) (hl : lv_has ls nL (L a1 a2 a3 a4)) (hs : ∀ (a1 : A1) (a2 : A2) (a3 : A3) (a4 : A4), I a1 a2 a3 a4 → (∀ (b1 : A1) (b2 : A2) (b3 : A3) (b4 : A4), I b1 b2 b3 b4 → (0 ≤ μ b1 b2 b3 b4 ∧ μ b1 b2 b3 b4 < μ a1 a2 a3 a4) → ∀ ls : Array Slot, lv_has ls nL (L b1 b2 b3 b4) → W p l e R s m args below meth c H locs cells slots Q (F0 m pc ls st0)) → ∀ ls : Array Slot, lv_has ls nL (L a1 a2 a3 a4) → W p l e R s m args below meth c H locs cells slots Q (F0 m pc ls st0)) : W p l e R s m args below meth c H locs cells slots Q (F0 m pc ls st0) := by
  have key : ∀ (n : Nat) (a1 : A1) (a2 : A2) (a3 : A3) (a4 : A4), I a1 a2 a3 a4 → (μ a1 a2 a3 a4).toNat < n → ∀ ls : Array Slot, lv_has ls nL (L a1 a2 a3 a4) → W p l e R s m args below meth c H locs cells slots Q (F0 m pc ls st0) := by
    intro n
    induction n with
    | zero => intro a1 a2 a3 a4 _ h; exact absurd h (Nat.not_lt_zero _)
    | succ n ih => exact fun a1 a2 a3 a4 hI hm => hs a1 a2 a3 a4 hI (fun b1 b2 b3 b4 hJ hc => ih b1 b2 b3 b4 hJ (by omega))
  exact key _ a1 a2 a3 a4 h0 (Nat.lt_succ_self _) ls hl
theorem z_loopH4 {A1 A2 A3 A4 : Type} {nL : Nat} {A : Nat → Prop} (L : A1 → A2 → A3 → A4 → List (Nat × Value)) (I : A1 → A2 → A3 → A4 → Heap → Prop) (μ : A1 → A2 → A3 → A4 → Int) (C D : A1 → A2 → A3 → A4 → Nat) {a1 : A1} {a2 : A2} {a3 : A3} {a4 : A4} (h0 : I a1 a2 a3 a4 H) (hL : ∀ q ∈ locs, A q.base) (hl : lv_has ls nL (L a1 a2 a3 a4)) (hs : ∀ (a1 : A1) (a2 : A2) (a3 : A3) (a4 : A4) (H : Heap) (locs : List Loc), I a1 a2 a3 a4 H → (∀ q ∈ locs, A q.base) → (∀ (b1 : A1) (b2 : A2) (b3 : A3) (b4 : A4) (H1 : Heap) (locs1 : List Loc), I b1 b2 b3 b4 H1 → (∀ q ∈ locs1, A q.base) → (0 ≤ μ b1 b2 b3 b4 ∧ μ b1 b2 b3 b4 < μ a1 a2 a3 a4) → ∀ ls : Array Slot, lv_has ls nL (L b1 b2 b3 b4) → W p l e R s m args below meth c H1 locs1 (C b1 b2 b3 b4) (D b1 b2 b3 b4) Q (F0 m pc ls st0)) → ∀ ls : Array Slot, lv_has ls nL (L a1 a2 a3 a4) → W p l e R s m args below meth c H locs (C a1 a2 a3 a4) (D a1 a2 a3 a4) Q (F0 m pc ls st0)) : W p l e R s m args below meth c H locs (C a1 a2 a3 a4) (D a1 a2 a3 a4) Q (F0 m pc ls st0) := by
  have key : ∀ (n : Nat) (a1 : A1) (a2 : A2) (a3 : A3) (a4 : A4) (H : Heap) (locs : List Loc), I a1 a2 a3 a4 H → (∀ q ∈ locs, A q.base) → (μ a1 a2 a3 a4).toNat < n → ∀ ls : Array Slot, lv_has ls nL (L a1 a2 a3 a4) → W p l e R s m args below meth c H locs (C a1 a2 a3 a4) (D a1 a2 a3 a4) Q (F0 m pc ls st0) := by
    intro n
    induction n with
    | zero => intro a1 a2 a3 a4 H locs _ _ h; exact absurd h (Nat.not_lt_zero _)
    | succ n ih => exact fun a1 a2 a3 a4 H locs hI hA hm => hs a1 a2 a3 a4 H locs hI hA (fun b1 b2 b3 b4 H1 locs1 hJ hA1 hc => ih b1 b2 b3 b4 H1 locs1 hJ hA1 (by omega))
  exact key _ a1 a2 a3 a4 H locs h0 hL (Nat.lt_succ_self _) ls hl
theorem z_loop5 {A1 A2 A3 A4 A5 : Type} {nL : Nat} (L : A1 → A2 → A3 → A4 → A5 → List (Nat × Value)) (I : A1 → A2 → A3 → A4 → A5 → Prop) (μ : A1 → A2 → A3 → A4 → A5 → Int) {a1 : A1} {a2 : A2} {a3 : A3} {a4 : A4} {a5 : A5} (h0 : I a1 a2 a3 a4 a5) (hl : lv_has ls nL (L a1 a2 a3 a4 a5)) (hs : ∀ (a1 : A1) (a2 : A2) (a3 : A3) (a4 : A4) (a5 : A5), I a1 a2 a3 a4 a5 → (∀ (b1 : A1) (b2 : A2) (b3 : A3) (b4 : A4) (b5 : A5), I b1 b2 b3 b4 b5 → (0 ≤ μ b1 b2 b3 b4 b5 ∧ μ b1 b2 b3 b4 b5 < μ a1 a2 a3 a4 a5) → ∀ ls : Array Slot, lv_has ls nL (L b1 b2 b3 b4 b5) → W p l e R s m args below meth c H locs cells slots Q (F0 m pc ls st0)) → ∀ ls : Array Slot, lv_has ls nL (L a1 a2 a3 a4 a5) → W p l e R s m args below meth c H locs cells slots Q (F0 m pc ls st0)) : W p l e R s m args below meth c H locs cells slots Q (F0 m pc ls st0) := by
  have key : ∀ (n : Nat) (a1 : A1) (a2 : A2) (a3 : A3) (a4 : A4) (a5 : A5), I a1 a2 a3 a4 a5 → (μ a1 a2 a3 a4 a5).toNat < n → ∀ ls : Array Slot, lv_has ls nL (L a1 a2 a3 a4 a5) → W p l e R s m args below meth c H locs cells slots Q (F0 m pc ls st0) := by
    intro n
    induction n with
    | zero => intro a1 a2 a3 a4 a5 _ h; exact absurd h (Nat.not_lt_zero _)
    | succ n ih => exact fun a1 a2 a3 a4 a5 hI hm => hs a1 a2 a3 a4 a5 hI (fun b1 b2 b3 b4 b5 hJ hc => ih b1 b2 b3 b4 b5 hJ (by omega))
  exact key _ a1 a2 a3 a4 a5 h0 (Nat.lt_succ_self _) ls hl
theorem z_loopH5 {A1 A2 A3 A4 A5 : Type} {nL : Nat} {A : Nat → Prop} (L : A1 → A2 → A3 → A4 → A5 → List (Nat × Value)) (I : A1 → A2 → A3 → A4 → A5 → Heap → Prop) (μ : A1 → A2 → A3 → A4 → A5 → Int) (C D : A1 → A2 → A3 → A4 → A5 → Nat) {a1 : A1} {a2 : A2} {a3 : A3} {a4 : A4} {a5 : A5} (h0 : I a1 a2 a3 a4 a5 H) (hL : ∀ q ∈ locs, A q.base) (hl : lv_has ls nL (L a1 a2 a3 a4 a5)) (hs : ∀ (a1 : A1) (a2 : A2) (a3 : A3) (a4 : A4) (a5 : A5) (H : Heap) (locs : List Loc), I a1 a2 a3 a4 a5 H → (∀ q ∈ locs, A q.base) → (∀ (b1 : A1) (b2 : A2) (b3 : A3) (b4 : A4) (b5 : A5) (H1 : Heap) (locs1 : List Loc), I b1 b2 b3 b4 b5 H1 → (∀ q ∈ locs1, A q.base) → (0 ≤ μ b1 b2 b3 b4 b5 ∧ μ b1 b2 b3 b4 b5 < μ a1 a2 a3 a4 a5) → ∀ ls : Array Slot, lv_has ls nL (L b1 b2 b3 b4 b5) → W p l e R s m args below meth c H1 locs1 (C b1 b2 b3 b4 b5) (D b1 b2 b3 b4 b5) Q (F0 m pc ls st0)) → ∀ ls : Array Slot, lv_has ls nL (L a1 a2 a3 a4 a5) → W p l e R s m args below meth c H locs (C a1 a2 a3 a4 a5) (D a1 a2 a3 a4 a5) Q (F0 m pc ls st0)) : W p l e R s m args below meth c H locs (C a1 a2 a3 a4 a5) (D a1 a2 a3 a4 a5) Q (F0 m pc ls st0) := by
  have key : ∀ (n : Nat) (a1 : A1) (a2 : A2) (a3 : A3) (a4 : A4) (a5 : A5) (H : Heap) (locs : List Loc), I a1 a2 a3 a4 a5 H → (∀ q ∈ locs, A q.base) → (μ a1 a2 a3 a4 a5).toNat < n → ∀ ls : Array Slot, lv_has ls nL (L a1 a2 a3 a4 a5) → W p l e R s m args below meth c H locs (C a1 a2 a3 a4 a5) (D a1 a2 a3 a4 a5) Q (F0 m pc ls st0) := by
    intro n
    induction n with
    | zero => intro a1 a2 a3 a4 a5 H locs _ _ h; exact absurd h (Nat.not_lt_zero _)
    | succ n ih => exact fun a1 a2 a3 a4 a5 H locs hI hA hm => hs a1 a2 a3 a4 a5 H locs hI hA (fun b1 b2 b3 b4 b5 H1 locs1 hJ hA1 hc => ih b1 b2 b3 b4 b5 H1 locs1 hJ hA1 (by omega))
  exact key _ a1 a2 a3 a4 a5 H locs h0 hL (Nat.lt_succ_self _) ls hl
theorem z_loop6 {A1 A2 A3 A4 A5 A6 : Type} {nL : Nat} (L : A1 → A2 → A3 → A4 → A5 → A6 → List (Nat × Value)) (I : A1 → A2 → A3 → A4 → A5 → A6 → Prop) (μ : A1 → A2 → A3 → A4 → A5 → A6 → Int) {a1 : A1} {a2 : A2} {a3 : A3} {a4 : A4} {a5 : A5} {a6 : A6} (h0 : I a1 a2 a3 a4 a5 a6) (hl : lv_has ls nL (L a1 a2 a3 a4 a5 a6)) (hs : ∀ (a1 : A1) (a2 : A2) (a3 : A3) (a4 : A4) (a5 : A5) (a6 : A6), I a1 a2 a3 a4 a5 a6 → (∀ (b1 : A1) (b2 : A2) (b3 : A3) (b4 : A4) (b5 : A5) (b6 : A6), I b1 b2 b3 b4 b5 b6 → (0 ≤ μ b1 b2 b3 b4 b5 b6 ∧ μ b1 b2 b3 b4 b5 b6 < μ a1 a2 a3 a4 a5 a6) → ∀ ls : Array Slot, lv_has ls nL (L b1 b2 b3 b4 b5 b6) → W p l e R s m args below meth c H locs cells slots Q (F0 m pc ls st0)) → ∀ ls : Array Slot, lv_has ls nL (L a1 a2 a3 a4 a5 a6) → W p l e R s m args below meth c H locs cells slots Q (F0 m pc ls st0)) : W p l e R s m args below meth c H locs cells slots Q (F0 m pc ls st0) := by
  have key : ∀ (n : Nat) (a1 : A1) (a2 : A2) (a3 : A3) (a4 : A4) (a5 : A5) (a6 : A6), I a1 a2 a3 a4 a5 a6 → (μ a1 a2 a3 a4 a5 a6).toNat < n → ∀ ls : Array Slot, lv_has ls nL (L a1 a2 a3 a4 a5 a6) → W p l e R s m args below meth c H locs cells slots Q (F0 m pc ls st0) := by
    intro n
    induction n with
    | zero => intro a1 a2 a3 a4 a5 a6 _ h; exact absurd h (Nat.not_lt_zero _)
    | succ n ih => exact fun a1 a2 a3 a4 a5 a6 hI hm => hs a1 a2 a3 a4 a5 a6 hI (fun b1 b2 b3 b4 b5 b6 hJ hc => ih b1 b2 b3 b4 b5 b6 hJ (by omega))
  exact key _ a1 a2 a3 a4 a5 a6 h0 (Nat.lt_succ_self _) ls hl
theorem z_loopH6 {A1 A2 A3 A4 A5 A6 : Type} {nL : Nat} {A : Nat → Prop} (L : A1 → A2 → A3 → A4 → A5 → A6 → List (Nat × Value)) (I : A1 → A2 → A3 → A4 → A5 → A6 → Heap → Prop) (μ : A1 → A2 → A3 → A4 → A5 → A6 → Int) (C D : A1 → A2 → A3 → A4 → A5 → A6 → Nat) {a1 : A1} {a2 : A2} {a3 : A3} {a4 : A4} {a5 : A5} {a6 : A6} (h0 : I a1 a2 a3 a4 a5 a6 H) (hL : ∀ q ∈ locs, A q.base) (hl : lv_has ls nL (L a1 a2 a3 a4 a5 a6)) (hs : ∀ (a1 : A1) (a2 : A2) (a3 : A3) (a4 : A4) (a5 : A5) (a6 : A6) (H : Heap) (locs : List Loc), I a1 a2 a3 a4 a5 a6 H → (∀ q ∈ locs, A q.base) → (∀ (b1 : A1) (b2 : A2) (b3 : A3) (b4 : A4) (b5 : A5) (b6 : A6) (H1 : Heap) (locs1 : List Loc), I b1 b2 b3 b4 b5 b6 H1 → (∀ q ∈ locs1, A q.base) → (0 ≤ μ b1 b2 b3 b4 b5 b6 ∧ μ b1 b2 b3 b4 b5 b6 < μ a1 a2 a3 a4 a5 a6) → ∀ ls : Array Slot, lv_has ls nL (L b1 b2 b3 b4 b5 b6) → W p l e R s m args below meth c H1 locs1 (C b1 b2 b3 b4 b5 b6) (D b1 b2 b3 b4 b5 b6) Q (F0 m pc ls st0)) → ∀ ls : Array Slot, lv_has ls nL (L a1 a2 a3 a4 a5 a6) → W p l e R s m args below meth c H locs (C a1 a2 a3 a4 a5 a6) (D a1 a2 a3 a4 a5 a6) Q (F0 m pc ls st0)) : W p l e R s m args below meth c H locs (C a1 a2 a3 a4 a5 a6) (D a1 a2 a3 a4 a5 a6) Q (F0 m pc ls st0) := by
  have key : ∀ (n : Nat) (a1 : A1) (a2 : A2) (a3 : A3) (a4 : A4) (a5 : A5) (a6 : A6) (H : Heap) (locs : List Loc), I a1 a2 a3 a4 a5 a6 H → (∀ q ∈ locs, A q.base) → (μ a1 a2 a3 a4 a5 a6).toNat < n → ∀ ls : Array Slot, lv_has ls nL (L a1 a2 a3 a4 a5 a6) → W p l e R s m args below meth c H locs (C a1 a2 a3 a4 a5 a6) (D a1 a2 a3 a4 a5 a6) Q (F0 m pc ls st0) := by
    intro n
    induction n with
    | zero => intro a1 a2 a3 a4 a5 a6 H locs _ _ h; exact absurd h (Nat.not_lt_zero _)
    | succ n ih => exact fun a1 a2 a3 a4 a5 a6 H locs hI hA hm => hs a1 a2 a3 a4 a5 a6 H locs hI hA (fun b1 b2 b3 b4 b5 b6 H1 locs1 hJ hA1 hc => ih b1 b2 b3 b4 b5 b6 H1 locs1 hJ hA1 (by omega))
  exact key _ a1 a2 a3 a4 a5 a6 H locs h0 hL (Nat.lt_succ_self _) ls hl
theorem z_loop7 {A1 A2 A3 A4 A5 A6 A7 : Type} {nL : Nat} (L : A1 → A2 → A3 → A4 → A5 → A6 → A7 → List (Nat × Value)) (I : A1 → A2 → A3 → A4 → A5 → A6 → A7 → Prop) (μ : A1 → A2 → A3 → A4 → A5 → A6 → A7 → Int) {a1 : A1} {a2 : A2} {a3 : A3} {a4 : A4} {a5 : A5} {a6 : A6} {a7 : A7} (h0 : I a1 a2 a3 a4 a5 a6 a7) (hl : lv_has ls nL (L a1 a2 a3 a4 a5 a6 a7)) (hs : ∀ (a1 : A1) (a2 : A2) (a3 : A3) (a4 : A4) (a5 : A5) (a6 : A6) (a7 : A7), I a1 a2 a3 a4 a5 a6 a7 → (∀ (b1 : A1) (b2 : A2) (b3 : A3) (b4 : A4) (b5 : A5) (b6 : A6) (b7 : A7), I b1 b2 b3 b4 b5 b6 b7 → (0 ≤ μ b1 b2 b3 b4 b5 b6 b7 ∧ μ b1 b2 b3 b4 b5 b6 b7 < μ a1 a2 a3 a4 a5 a6 a7) → ∀ ls : Array Slot, lv_has ls nL (L b1 b2 b3 b4 b5 b6 b7) → W p l e R s m args below meth c H locs cells slots Q (F0 m pc ls st0)) → ∀ ls : Array Slot, lv_has ls nL (L a1 a2 a3 a4 a5 a6 a7) → W p l e R s m args below meth c H locs cells slots Q (F0 m pc ls st0)) : W p l e R s m args below meth c H locs cells slots Q (F0 m pc ls st0) := by
  have key : ∀ (n : Nat) (a1 : A1) (a2 : A2) (a3 : A3) (a4 : A4) (a5 : A5) (a6 : A6) (a7 : A7), I a1 a2 a3 a4 a5 a6 a7 → (μ a1 a2 a3 a4 a5 a6 a7).toNat < n → ∀ ls : Array Slot, lv_has ls nL (L a1 a2 a3 a4 a5 a6 a7) → W p l e R s m args below meth c H locs cells slots Q (F0 m pc ls st0) := by
    intro n
    induction n with
    | zero => intro a1 a2 a3 a4 a5 a6 a7 _ h; exact absurd h (Nat.not_lt_zero _)
    | succ n ih => exact fun a1 a2 a3 a4 a5 a6 a7 hI hm => hs a1 a2 a3 a4 a5 a6 a7 hI (fun b1 b2 b3 b4 b5 b6 b7 hJ hc => ih b1 b2 b3 b4 b5 b6 b7 hJ (by omega))
  exact key _ a1 a2 a3 a4 a5 a6 a7 h0 (Nat.lt_succ_self _) ls hl
theorem z_loopH7 {A1 A2 A3 A4 A5 A6 A7 : Type} {nL : Nat} {A : Nat → Prop} (L : A1 → A2 → A3 → A4 → A5 → A6 → A7 → List (Nat × Value)) (I : A1 → A2 → A3 → A4 → A5 → A6 → A7 → Heap → Prop) (μ : A1 → A2 → A3 → A4 → A5 → A6 → A7 → Int) (C D : A1 → A2 → A3 → A4 → A5 → A6 → A7 → Nat) {a1 : A1} {a2 : A2} {a3 : A3} {a4 : A4} {a5 : A5} {a6 : A6} {a7 : A7} (h0 : I a1 a2 a3 a4 a5 a6 a7 H) (hL : ∀ q ∈ locs, A q.base) (hl : lv_has ls nL (L a1 a2 a3 a4 a5 a6 a7)) (hs : ∀ (a1 : A1) (a2 : A2) (a3 : A3) (a4 : A4) (a5 : A5) (a6 : A6) (a7 : A7) (H : Heap) (locs : List Loc), I a1 a2 a3 a4 a5 a6 a7 H → (∀ q ∈ locs, A q.base) → (∀ (b1 : A1) (b2 : A2) (b3 : A3) (b4 : A4) (b5 : A5) (b6 : A6) (b7 : A7) (H1 : Heap) (locs1 : List Loc), I b1 b2 b3 b4 b5 b6 b7 H1 → (∀ q ∈ locs1, A q.base) → (0 ≤ μ b1 b2 b3 b4 b5 b6 b7 ∧ μ b1 b2 b3 b4 b5 b6 b7 < μ a1 a2 a3 a4 a5 a6 a7) → ∀ ls : Array Slot, lv_has ls nL (L b1 b2 b3 b4 b5 b6 b7) → W p l e R s m args below meth c H1 locs1 (C b1 b2 b3 b4 b5 b6 b7) (D b1 b2 b3 b4 b5 b6 b7) Q (F0 m pc ls st0)) → ∀ ls : Array Slot, lv_has ls nL (L a1 a2 a3 a4 a5 a6 a7) → W p l e R s m args below meth c H locs (C a1 a2 a3 a4 a5 a6 a7) (D a1 a2 a3 a4 a5 a6 a7) Q (F0 m pc ls st0)) : W p l e R s m args below meth c H locs (C a1 a2 a3 a4 a5 a6 a7) (D a1 a2 a3 a4 a5 a6 a7) Q (F0 m pc ls st0) := by
  have key : ∀ (n : Nat) (a1 : A1) (a2 : A2) (a3 : A3) (a4 : A4) (a5 : A5) (a6 : A6) (a7 : A7) (H : Heap) (locs : List Loc), I a1 a2 a3 a4 a5 a6 a7 H → (∀ q ∈ locs, A q.base) → (μ a1 a2 a3 a4 a5 a6 a7).toNat < n → ∀ ls : Array Slot, lv_has ls nL (L a1 a2 a3 a4 a5 a6 a7) → W p l e R s m args below meth c H locs (C a1 a2 a3 a4 a5 a6 a7) (D a1 a2 a3 a4 a5 a6 a7) Q (F0 m pc ls st0) := by
    intro n
    induction n with
    | zero => intro a1 a2 a3 a4 a5 a6 a7 H locs _ _ h; exact absurd h (Nat.not_lt_zero _)
    | succ n ih => exact fun a1 a2 a3 a4 a5 a6 a7 H locs hI hA hm => hs a1 a2 a3 a4 a5 a6 a7 H locs hI hA (fun b1 b2 b3 b4 b5 b6 b7 H1 locs1 hJ hA1 hc => ih b1 b2 b3 b4 b5 b6 b7 H1 locs1 hJ hA1 (by omega))
  exact key _ a1 a2 a3 a4 a5 a6 a7 H locs h0 hL (Nat.lt_succ_self _) ls hl
theorem z_loop8 {A1 A2 A3 A4 A5 A6 A7 A8 : Type} {nL : Nat} (L : A1 → A2 → A3 → A4 → A5 → A6 → A7 → A8 → List (Nat × Value)) (I : A1 → A2 → A3 → A4 → A5 → A6 → A7 → A8 → Prop) (μ : A1 → A2 → A3 → A4 → A5 → A6 → A7 → A8 → Int) {a1 : A1} {a2 : A2} {a3 : A3} {a4 : A4} {a5 : A5} {a6 : A6} {a7 : A7} {a8 : A8} (h0 : I a1 a2 a3 a4 a5 a6 a7 a8) (hl : lv_has ls nL (L a1 a2 a3 a4 a5 a6 a7 a8)) (hs : ∀ (a1 : A1) (a2 : A2) (a3 : A3) (a4 : A4) (a5 : A5) (a6 : A6) (a7 : A7) (a8 : A8), I a1 a2 a3 a4 a5 a6 a7 a8 → (∀ (b1 : A1) (b2 : A2) (b3 : A3) (b4 : A4) (b5 : A5) (b6 : A6) (b7 : A7) (b8 : A8), I b1 b2 b3 b4 b5 b6 b7 b8 → (0 ≤ μ b1 b2 b3 b4 b5 b6 b7 b8 ∧ μ b1 b2 b3 b4 b5 b6 b7 b8 < μ a1 a2 a3 a4 a5 a6 a7 a8) → ∀ ls : Array Slot, lv_has ls nL (L b1 b2 b3 b4 b5 b6 b7 b8) → W p l e R s m args below meth c H locs cells slots Q (F0 m pc ls st0)) → ∀ ls : Array Slot, lv_has ls nL (L a1 a2 a3 a4 a5 a6 a7 a8) → W p l e R s m args below meth c H locs cells slots Q (F0 m pc ls st0)) : W p l e R s m args below meth c H locs cells slots Q (F0 m pc ls st0) := by
  have key : ∀ (n : Nat) (a1 : A1) (a2 : A2) (a3 : A3) (a4 : A4) (a5 : A5) (a6 : A6) (a7 : A7) (a8 : A8), I a1 a2 a3 a4 a5 a6 a7 a8 → (μ a1 a2 a3 a4 a5 a6 a7 a8).toNat < n → ∀ ls : Array Slot, lv_has ls nL (L a1 a2 a3 a4 a5 a6 a7 a8) → W p l e R s m args below meth c H locs cells slots Q (F0 m pc ls st0) := by
    intro n
    induction n with
    | zero => intro a1 a2 a3 a4 a5 a6 a7 a8 _ h; exact absurd h (Nat.not_lt_zero _)
    | succ n ih => exact fun a1 a2 a3 a4 a5 a6 a7 a8 hI hm => hs a1 a2 a3 a4 a5 a6 a7 a8 hI (fun b1 b2 b3 b4 b5 b6 b7 b8 hJ hc => ih b1 b2 b3 b4 b5 b6 b7 b8 hJ (by omega))
  exact key _ a1 a2 a3 a4 a5 a6 a7 a8 h0 (Nat.lt_succ_self _) ls hl
theorem z_loopH8 {A1 A2 A3 A4 A5 A6 A7 A8 : Type} {nL : Nat} {A : Nat → Prop} (L : A1 → A2 → A3 → A4 → A5 → A6 → A7 → A8 → List (Nat × Value)) (I : A1 → A2 → A3 → A4 → A5 → A6 → A7 → A8 → Heap → Prop) (μ : A1 → A2 → A3 → A4 → A5 → A6 → A7 → A8 → Int) (C D : A1 → A2 → A3 → A4 → A5 → A6 → A7 → A8 → Nat) {a1 : A1} {a2 : A2} {a3 : A3} {a4 : A4} {a5 : A5} {a6 : A6} {a7 : A7} {a8 : A8} (h0 : I a1 a2 a3 a4 a5 a6 a7 a8 H) (hL : ∀ q ∈ locs, A q.base) (hl : lv_has ls nL (L a1 a2 a3 a4 a5 a6 a7 a8)) (hs : ∀ (a1 : A1) (a2 : A2) (a3 : A3) (a4 : A4) (a5 : A5) (a6 : A6) (a7 : A7) (a8 : A8) (H : Heap) (locs : List Loc), I a1 a2 a3 a4 a5 a6 a7 a8 H → (∀ q ∈ locs, A q.base) → (∀ (b1 : A1) (b2 : A2) (b3 : A3) (b4 : A4) (b5 : A5) (b6 : A6) (b7 : A7) (b8 : A8) (H1 : Heap) (locs1 : List Loc), I b1 b2 b3 b4 b5 b6 b7 b8 H1 → (∀ q ∈ locs1, A q.base) → (0 ≤ μ b1 b2 b3 b4 b5 b6 b7 b8 ∧ μ b1 b2 b3 b4 b5 b6 b7 b8 < μ a1 a2 a3 a4 a5 a6 a7 a8) → ∀ ls : Array Slot, lv_has ls nL (L b1 b2 b3 b4 b5 b6 b7 b8) → W p l e R s m args below meth c H1 locs1 (C b1 b2 b3 b4 b5 b6 b7 b8) (D b1 b2 b3 b4 b5 b6 b7 b8) Q (F0 m pc ls st0)) → ∀ ls : Array Slot, lv_has ls nL (L a1 a2 a3 a4 a5 a6 a7 a8) → W p l e R s m args below meth c H locs (C a1 a2 a3 a4 a5 a6 a7 a8) (D a1 a2 a3 a4 a5 a6 a7 a8) Q (F0 m pc ls st0)) : W p l e R s m args below meth c H locs (C a1 a2 a3 a4 a5 a6 a7 a8) (D a1 a2 a3 a4 a5 a6 a7 a8) Q (F0 m pc ls st0) := by
  have key : ∀ (n : Nat) (a1 : A1) (a2 : A2) (a3 : A3) (a4 : A4) (a5 : A5) (a6 : A6) (a7 : A7) (a8 : A8) (H : Heap) (locs : List Loc), I a1 a2 a3 a4 a5 a6 a7 a8 H → (∀ q ∈ locs, A q.base) → (μ a1 a2 a3 a4 a5 a6 a7 a8).toNat < n → ∀ ls : Array Slot, lv_has ls nL (L a1 a2 a3 a4 a5 a6 a7 a8) → W p l e R s m args below meth c H locs (C a1 a2 a3 a4 a5 a6 a7 a8) (D a1 a2 a3 a4 a5 a6 a7 a8) Q (F0 m pc ls st0) := by
    intro n
    induction n with
    | zero => intro a1 a2 a3 a4 a5 a6 a7 a8 H locs _ _ h; exact absurd h (Nat.not_lt_zero _)
    | succ n ih => exact fun a1 a2 a3 a4 a5 a6 a7 a8 H locs hI hA hm => hs a1 a2 a3 a4 a5 a6 a7 a8 H locs hI hA (fun b1 b2 b3 b4 b5 b6 b7 b8 H1 locs1 hJ hA1 hc => ih b1 b2 b3 b4 b5 b6 b7 b8 H1 locs1 hJ hA1 (by omega))
  exact key _ a1 a2 a3 a4 a5 a6 a7 a8 H locs h0 hL (Nat.lt_succ_self _) ls hl
end ZC
