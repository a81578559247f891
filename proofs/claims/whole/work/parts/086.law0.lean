/-! the law's world -/
abbrev S3 (st sl wo : Nat) (p q c b n : Int) : va_W := [(st, .inr (3, [.ref sl, .ref wo])), (sl, .inr (2, [.int (iZ p), .int (iZ q), .int (iZ c)])), (wo, .inr (4, [.long (lZ b), .int (iZ n)]))]
abbrev CW (cy : Nat → ClassId) (xa hi ra ci pa ga st : Nat) (nx kp : Int) (rw9 : Int → Option Nat) (pt1 gp : Int → Int) : va_W := [(xa, .inr (5, [.ref hi, .ref ci, .ref st])), (hi, .inr (1, [.ref ra, .int (iZ nx), .int (iZ kp)])), (ra, .inl (cy 2, 6, .inr (.inr (.inr (.inr (qf rw9)))))), (ci, .inr (0, [.ref pa, .ref ga])), (pa, .inl (cy 1, 1000, .inl (zf pt1))), (ga, .inl (cy 0, 1001, .inl (zf gp)))]
def xI (xs : Nat → Int32) (k : Int) : Int := (xs k.toNat).toInt
theorem xI_r {xs : Nat → Int32} {k u : Int} (h : xI xs k = u) : -2147483648 ≤ u ∧ u < 2147483648 := by
  subst h
  have h1 := Int32.le_toInt (xs k.toNat)
  have h2 := Int32.toInt_lt (xs k.toNat)
  unfold xI
  omega
def SI (x : Int → Int) (p q c b n : Int) : Prop := p = x 0 ∧ q = x 1 ∧ c = x 2 ∧ n = x 3 ∧ RowIs x b n ∧ (0 ≤ p ∧ p ≤ q ∧ 1 ≤ q ∧ q ≤ 1000 ∧ 0 ≤ c ∧ c < q) ∧ n ≤ 60
theorem SI.cg {x y : Int → Int} {p q c b n : Int} (h : SI x p q c b n) (e : ∀ j, 0 ≤ j → j < 64 → y j = x j) : SI y p q c b n := by
  obtain ⟨h1, h2, h3, h4, h5, h6⟩ := h
  exact ⟨by rw [e 0 (by decide) (by decide), h1], by rw [e 1 (by decide) (by decide), h2], by rw [e 2 (by decide) (by decide), h3], by rw [e 3 (by decide) (by decide), h4], h5.cg (fun j a c => e j (by omega) c), h6⟩
/-- the states that undo comes back to: the class's ring and the reference's past -/
def HS (G : va_G) (A : Nat → Prop) (Ml : List Nat) (nx ed : Int) (rw9 : Int → Option Nat) (ps : Int → Int) (H : Heap) : Prop := ∀ i : Int, 0 ≤ i → i < ed → ∃ (st sl wo : Nat) (p q c b n : Int), rw9 ((nx + 5 - i) % 6) = some st ∧ va_P G vwCl (S3 st sl wo p q c b n) H ∧ va_D A (S3 st sl wo p q c b n) ∧ (st ∉ Ml ∧ sl ∉ Ml ∧ wo ∉ Ml) ∧ SI (fun x => ps (64 * (ed - 1 - i) + x)) p q c b n
theorem S3_at {Ml : List Nat} {st sl wo : Nat} {p q c b n : Int} (h : st ∉ Ml ∧ sl ∉ Ml ∧ wo ∉ Ml) {k : Nat} {x : Nat × va_E} (hk : (S3 st sl wo p q c b n)[k]? = some x) : x.1 ∉ Ml := by
  match k, hk with
  | 0, hk => cases hk; exact h.1
  | 1, hk => cases hk; exact h.2.1
  | 2, hk => cases hk; exact h.2.2
  | k + 3, hk => simp at hk
theorem HS.fx {G : va_G} {A : Nat → Prop} {Ml : List Nat} {nx ed : Int} {rw9 : Int → Option Nat} {ps : Int → Int} {H H1 : Heap} {wc : va_W} (h : HS G A Ml nx ed rw9 ps H) (hF : Fh (va_A wc H.size) H H1) (isC : List Nat) (hC : isC.map (fun i => Ml[i]?) = wc.map (fun x => some x.1)) : HS G A Ml nx ed rw9 ps H1 := fun i h1 h2 => by
  obtain ⟨st, sl, wo, p, q, c, b, n, e1, e2, e3, e4, e5⟩ := h i h1 h2
  refine ⟨st, sl, wo, p, q, c, b, n, e1, e2.kept (fun k x hk => hF.2 x.1 (e2 k x hk).lt ?_), e3, e4, e5⟩
  have hnot := S3_at e4 hk
  rintro (⟨k2, e, hk2⟩ | z)
  · have h9 : (wc.map (fun x => some x.1))[k2]? = some (some x.1) := by rw [List.getElem?_map, hk2]; rfl
    rw [← hC, List.getElem?_map] at h9
    cases hj : isC[k2]? with
    | none => rw [hj] at h9; cases h9
    | some j => rw [hj] at h9; exact hnot (List.mem_of_getElem? (Option.some.inj h9))
  · have := (e2 k x hk).lt
    omega
theorem HS.keep {G : va_G} {A : Nat → Prop} {Ml : List Nat} {nx ed : Int} {rw9 : Int → Option Nat} {ps nw : Int → Int} {H : Heap} {st sl wo : Nat} {p q c b n : Int} (h : HS G A Ml nx ed rw9 ps H) (hnx : 0 ≤ nx ∧ nx < 6) (he : 0 ≤ ed ∧ ed ≤ 6) (hP : va_P G vwCl (S3 st sl wo p q c b n) H) (hD : va_D A (S3 st sl wo p q c b n)) (hM : st ∉ Ml ∧ sl ∉ Ml ∧ wo ∉ Ml) (hSI : SI nw p q c b n) : HS G A Ml (nxF nx) (svE ed) (upq rw9 nx (some st)) (svP ps nw ed) H := fun i h1 h2 => by
  have hi : i < 6 := by unfold svE at h2; split at h2 <;> omega
  have hnx2 : nxF nx = (nx + 1) % 6 := by unfold nxF; split <;> omega
  have hsv : svE ed = if ed = 6 then 6 else ed + 1 := by unfold svE; split <;> omega
  by_cases z : i = 0
  · subst z
    refine ⟨st, sl, wo, p, q, c, b, n, ?_, hP, hD, hM, hSI.cg (fun j j1 j2 => ?_)⟩
    · unfold upq
      rw [if_pos (by rw [hnx2]; omega)]
    · show svP ps nw ed _ = _
      unfold svP svE cpy
      by_cases y : ed = 6
      · rw [if_pos y, if_pos y]
        rw [if_pos (by omega)]
        congr 1; omega
      · rw [if_neg y, if_neg y]
        rw [if_pos (by omega)]
        congr 1; omega
  · obtain ⟨st2, sl2, wo2, p2, q2, c2, b2, n2, e1, e2, e3, e4, e5⟩ := h (i - 1) (by omega) (by rw [hsv] at h2; split at h2 <;> omega)
    refine ⟨st2, sl2, wo2, p2, q2, c2, b2, n2, ?_, e2, e3, e4, e5.cg (fun j j1 j2 => ?_)⟩
    · unfold upq
      rw [if_neg (by rw [hnx2]; omega), ← e1, hnx2]
      congr 1; omega
    · show svP ps nw ed _ = ps _
      rw [hsv] at h2 ⊢
      unfold svP cpy shd
      by_cases y : ed = 6
      · rw [if_pos y] at h2 ⊢
        rw [if_pos y, if_pos y, if_neg (by omega), if_pos (by omega)]
        congr 1; omega
      · rw [if_neg y] at h2 ⊢
        rw [if_neg y, if_neg y, if_neg (by omega)]
        congr 1; omega
theorem HS.take {G : va_G} {A : Nat → Prop} {Ml : List Nat} {nx ed : Int} {rw9 : Int → Option Nat} {ps : Int → Int} {H : Heap} (h : HS G A Ml nx ed rw9 ps H) (hnx : 0 ≤ nx ∧ nx < 6) : HS G A Ml (pvF nx) (ed - 1) rw9 ps H := fun i h1 h2 => by
  obtain ⟨st2, sl2, wo2, p2, q2, c2, b2, n2, e1, e2, e3, e4, e5⟩ := h (i + 1) (by omega) (by omega)
  have hpv : pvF nx = (nx + 5) % 6 := by unfold pvF; split <;> omega
  refine ⟨st2, sl2, wo2, p2, q2, c2, b2, n2, ?_, e2, e3, e4, e5.cg (fun j j1 j2 => ?_)⟩
  · rw [← e1, hpv]
    congr 1; omega
  · show ps _ = ps _
    congr 1; omega
theorem kp_sv {kp ed : Int} (h : kp = ed) (he : 0 ≤ ed ∧ ed ≤ 6) : kpF kp = svE ed ∧ 0 ≤ svE ed ∧ svE ed ≤ 6 := by
  subst h
  unfold kpF svE
  split <;> split <;> omega
theorem nxF_r {nx : Int} (h : 0 ≤ nx ∧ nx < 6) : 0 ≤ nxF nx ∧ nxF nx < 6 := by unfold nxF; split <;> omega
theorem pvF_r {nx : Int} (h : 0 ≤ nx ∧ nx < 6) : 0 ≤ pvF nx ∧ pvF nx < 6 := by unfold pvF; split <;> omega
/-- between two ops -/
def LInv (G : va_G) (cy : Nat → ClassId) (A : Nat → Prop) (a0 a1 a2 a3 a4 a5 a6 a7 xa hi ra ci pa ga : Nat) (H : Heap) : Prop := ∃ (st sl wo : Nat) (nx kp : Int) (rw9 : Int → Option Nat) (pt1 gp : Int → Int) (p q c b n ed tc ol nl : Int) (nw nr ps tm od ne pt : Int → Int),
  va_P G vwCl (MW cy a0 a1 a2 a3 a4 a5 a6 a7 ed tc ol nl nw nr ps tm od ne pt ++ CW cy xa hi ra ci pa ga st nx kp rw9 pt1 gp ++ S3 st sl wo p q c b n) H ∧ va_D A (MW cy a0 a1 a2 a3 a4 a5 a6 a7 ed tc ol nl nw nr ps tm od ne pt ++ CW cy xa hi ra ci pa ga st nx kp rw9 pt1 gp ++ S3 st sl wo p q c b n) ∧ SI nw p q c b n ∧ HS G A [a0, a1, a2, a3, a4, a5, a6, a7, xa, hi, ra, ci, pa, ga] nx ed rw9 ps H ∧ kp = ed ∧ (0 ≤ ed ∧ ed ≤ 6) ∧ (0 ≤ nx ∧ nx < 6) ∧ ∀ x, 0 ≤ x → x < 1000 → pt x = 0 ∨ pt x = 1
theorem LInv.mk {G : va_G} {cy : Nat → ClassId} {A : Nat → Prop} {a0 a1 a2 a3 a4 a5 a6 a7 xa hi ra ci pa ga : Nat} {H : Heap} {st sl wo : Nat} {nx kp : Int} {rw9 : Int → Option Nat} {pt1 gp : Int → Int} {p q c b n ed tc ol nl : Int} {nw nr ps tm od ne pt : Int → Int}
  (hP : va_P G vwCl (MW cy a0 a1 a2 a3 a4 a5 a6 a7 ed tc ol nl nw nr ps tm od ne pt ++ CW cy xa hi ra ci pa ga st nx kp rw9 pt1 gp ++ S3 st sl wo p q c b n) H) (hD : va_D A (MW cy a0 a1 a2 a3 a4 a5 a6 a7 ed tc ol nl nw nr ps tm od ne pt ++ CW cy xa hi ra ci pa ga st nx kp rw9 pt1 gp ++ S3 st sl wo p q c b n)) (h1 : SI nw p q c b n) (h2 : HS G A [a0, a1, a2, a3, a4, a5, a6, a7, xa, hi, ra, ci, pa, ga] nx ed rw9 ps H) (h3 : kp = ed) (h4 : 0 ≤ ed ∧ ed ≤ 6) (h5 : 0 ≤ nx ∧ nx < 6) (h6 : ∀ x, 0 ≤ x → x < 1000 → pt x = 0 ∨ pt x = 1) : LInv G cy A a0 a1 a2 a3 a4 a5 a6 a7 xa hi ra ci pa ga H :=
  ⟨st, sl, wo, nx, kp, rw9, pt1, gp, p, q, c, b, n, ed, tc, ol, nl, nw, nr, ps, tm, od, ne, pt, hP, hD, h1, h2, h3, h4, h5, h6⟩
/-- a cell of the list's rest is none of its first -/
theorem law_not {A : Nat → Prop} {ws : va_W} (hD : va_D A ws) (N : Nat) {Ml : List Nat} (hM : (ws.take N).map (fun x => x.1) = Ml) {k : Nat} {x : Nat × va_E} (hk : ws[k]? = some x) (hN : N ≤ k) : x.1 ∉ Ml := by
  intro z
  rw [← hM] at z
  obtain ⟨y, hy, e⟩ := List.mem_map.mp z
  obtain ⟨j, hj⟩ := List.mem_iff_getElem?.mp hy
  rw [List.getElem?_take] at hj
  split at hj
  · have := hD.1 j k y x hj hk e
    omega
  · cases hj
theorem iZ_31 (a : Int) : iZ a &&& iZ 31 = iZ (a % 32) := by
  apply Int32.toBitVec_inj.mp
  rw [Int32.toBitVec_and]
  show BitVec.ofInt 32 a &&& BitVec.ofInt 32 31 = BitVec.ofInt 32 (a % 32)
  apply BitVec.eq_of_toNat_eq
  rw [BitVec.toNat_and, BitVec.toNat_ofInt, BitVec.toNat_ofInt, BitVec.toNat_ofInt]
  have h1 := Nat.and_two_pow_sub_one_eq_mod (a % ((2 ^ 32 : Nat) : Int)).toNat 5
  rw [show (2 ^ 5 - 1 : Nat) = ((31 : Int) % ((2 ^ 32 : Nat) : Int)).toNat from by decide] at h1
  rw [h1]
  omega
section LROW
variable {p : Program} {l : Launch} {e : Env} {R : Room} {s : State} {m : MethodId} {args : Array Value} {below : List Frame} {meth : Method} {c : Code} {H : Heap} {locs : List Loc} {cells slots : Nat} {Q : State → Prop}
variable {cc : ByteArray} {pc : Nat} {ls : Array Slot} {rest : List Value} {A : Nat → Prop} {H0 : Heap} {b L : Nat} {xs : Nat → Int32}
theorem z_sld (hx : p.tables.exec = Jvm.exec) (hb : c.code = cc) (hX : va_X b L xs s H0) (hbl : b < H0.size) (hbA : ¬ A b) (hS : va_S A H0 H locs) {i v : Int} (h : 0 ≤ i ∧ i < 2147483648 ∧ i < L) (hv : xI xs i = v) (d : decode cc pc = .ok (.iaload, 1)) (kk : W p l e R s m args below meth c H locs cells slots Q (F0 m (pc + 1) ls (.int (iZ v) :: rest))) : W p l e R s m args below meth c H locs cells slots Q (F0 m pc ls (.int (iZ i) :: .ref b :: rest)) := by
  refine va_sld hx hb hX hbl hbA hS (iZ_in h) d ?_
  rw [iZ_cl h.1 h.2.1, show xs i.toNat = iZ v from by rw [← hv]; exact (Int32.ofInt_toInt (xs i.toNat)).symm]
  exact kk
theorem z_slen (hx : p.tables.exec = Jvm.exec) (hb : c.code = cc) (hX : va_X b L xs s H0) (hbl : b < H0.size) (hbA : ¬ A b) (hS : va_S A H0 H locs) (d : decode cc pc = .ok (.arraylength, 1)) (kk : W p l e R s m args below meth c H locs cells slots Q (F0 m (pc + 1) ls (.int (iZ (L : Int)) :: rest))) : W p l e R s m args below meth c H locs cells slots Q (F0 m pc ls (.ref b :: rest)) :=
  va_slen hx hb hX hbl hbA hS d (by rw [show Int32.ofNat L = iZ (L : Int) from iZ_nI L]; exact kk)
theorem z_same (hx : p.tables.exec = Jvm.exec) (hb : c.code = cc) {off : Int} {tgt : Nat} (d : decode cc pc = .ok (.if_icmp .eq off, 3)) (ht : (pc : Int) + off = (tgt : Int)) {x y : Int} (eq : x = y) (kk : W p l e R s m args below meth c H locs cells slots Q (F0 m tgt ls rest)) : W p l e R s m args below meth c H locs cells slots Q (F0 m pc ls (.int (iZ y) :: .int (iZ x) :: rest)) :=
  lv_icmp_eq hx hb d ht (fun _ => kk) (fun q => absurd (by rw [eq]) q)
theorem z_and31 (hx : p.tables.exec = Jvm.exec) (hb : c.code = cc) (d : decode cc pc = .ok (.iand, 1)) {a : Int} (kk : W p l e R s m args below meth c H locs cells slots Q (F0 m (pc + 1) ls (.int (iZ (a % 32)) :: rest))) : W p l e R s m args below meth c H locs cells slots Q (F0 m pc ls (.int (iZ 31) :: .int (iZ a) :: rest)) :=
  lv_iand hx hb d (by rw [iZ_31]; exact kk)
end LROW
