/-! THE NUMBER OF BITS: bitCount's own formula, byte by byte -/
abbrev tN (x : Int32) : Nat := x.toBitVec.toNat
theorem jus_bv (x : Int32) (n : Nat) (hn : n < 32) : (jus x (nI n)).toBitVec = x.toBitVec >>> n := by
  apply BitVec.eq_of_getLsbD_eq
  intro i hi
  have := b_ushr n hn x i
  unfold bt at this
  rw [show jus x (nI n) = (x.toUInt32 >>> ((nI n).toUInt32 &&& Int32.toUInt32 31)).toInt32 from rfl, this, BitVec.getLsbD_ushiftRight]
theorem jus_tN (x : Int32) (n : Nat) (hn : n < 32) : tN (jus x (nI n)) = tN x / 2 ^ n := by
  unfold tN
  rw [jus_bv x n hn, BitVec.toNat_ushiftRight, Nat.shiftRight_eq_div_pow]
theorem tN_and (x y : Int32) : tN (x &&& y) = tN x &&& tN y := by unfold tN; rw [Int32.toBitVec_and, BitVec.toNat_and]
theorem tN_add (x y : Int32) (h : tN x + tN y < 2 ^ 32) : tN (x + y) = tN x + tN y := by unfold tN at *; rw [Int32.toBitVec_add, BitVec.toNat_add, Nat.mod_eq_of_lt h]
theorem tN_sub (x y : Int32) (h : tN y ≤ tN x) : tN (x - y) = tN x - tN y := by
  unfold tN at *
  rw [Int32.toBitVec_sub, BitVec.toNat_sub]
  have h1 := x.toBitVec.isLt
  have h2 := y.toBitVec.isLt
  omega
theorem nd_split (h l mh ml : Nat) (hl : l < 256) (hm : ml < 256) : (256 * h + l) &&& (256 * mh + ml) = 256 * (h &&& mh) + (l &&& ml) := by
  have hand : l &&& ml < 256 := Nat.lt_of_le_of_lt Nat.and_le_left hl
  apply Nat.eq_of_testBit_eq
  intro i
  rw [Nat.testBit_and]
  rw [show (256 : Nat) = 2 ^ 8 from rfl, Nat.testBit_two_pow_mul_add h hl, Nat.testBit_two_pow_mul_add mh hm, Nat.testBit_two_pow_mul_add _ hand]
  split
  · rw [Nat.testBit_and]
  · rw [Nat.testBit_and]
def nb1 (m X : Nat) : Nat := X - (X / 2 &&& m)
def nb2 (m X : Nat) : Nat := (X &&& m) + (X / 4 &&& m)
def sb1 (l : Nat) : Nat := l - (l / 2 &&& 85)
def sb2 (l : Nat) : Nat := (l &&& 51) + (l / 4 &&& 51)
theorem t1 : ∀ l, l < 256 → ∀ c, c < 2 → (((l + 256 * c) / 2) &&& 85) = ((l / 2) &&& 85) ∧ (l + 256 * c) / 2 < 256 := by decide +kernel
theorem t2 : ∀ l, l < 256 → ∀ c, c < 4 → (((l + 256 * c) / 4) &&& 51) = ((l / 4) &&& 51) ∧ (l + 256 * c) / 4 < 256 := by decide +kernel
theorem nb1_s (m Y l : Nat) (hl : l < 256) : nb1 (256 * m + 85) (256 * Y + l) = 256 * nb1 m Y + sb1 l := by
  unfold nb1 sb1
  obtain ⟨a, b⟩ := t1 l hl (Y % 2) (by omega)
  have e1 : (256 * Y + l) / 2 = 256 * (Y / 2) + (l + 256 * (Y % 2)) / 2 := by omega
  rw [e1, nd_split _ _ _ _ b (by decide), a]
  have h1 : (Y / 2 &&& m) ≤ Y / 2 := Nat.and_le_left
  have h2 : (l / 2 &&& 85) ≤ l / 2 := Nat.and_le_left
  omega
theorem nb2_s (m Y l : Nat) (hl : l < 256) : nb2 (256 * m + 51) (256 * Y + l) = 256 * nb2 m Y + sb2 l := by
  unfold nb2 sb2
  obtain ⟨a, b⟩ := t2 l hl (Y % 4) (by omega)
  have e1 : (256 * Y + l) / 4 = 256 * (Y / 4) + (l + 256 * (Y % 4)) / 4 := by omega
  rw [e1, nd_split _ _ _ _ b (by decide), a, nd_split _ _ _ _ hl (by decide)]
  omega
def tb (b : Nat) : Nat := sb2 (sb1 b)
def ub (b : Nat) : Nat := cnt_lp (fun i => b.testBit i) 8 0 0
theorem t3 : ∀ b, b < 256 → sb1 b < 256 ∧ tb b ≤ 68 ∧ tb b % 16 ≤ 4 ∧ ub b ≤ 8 := by decide +kernel
theorem t4 : ∀ b, b < 256 → ∀ c, c < 5 → (tb b + tb b / 16 + 16 * c) &&& 15 = ub b ∧ tb b + tb b / 16 + 16 * c < 256 := by decide +kernel
theorem and63 (x : Nat) : x &&& 63 = x % 64 := Nat.and_two_pow_sub_one_eq_mod x 6
theorem jbc_bytes (x : Int32) (l0 l1 l2 : Nat) (h0 : l0 < 256) (h1 : l1 < 256) (h2 : l2 < 256) (hx : tN x = 256 * (256 * (256 * 0 + l2) + l1) + l0) : tN (jbc x) = ub l0 + ub l1 + ub l2 := by
  obtain ⟨a0, b0, c0, d0⟩ := t3 l0 h0
  obtain ⟨a1, b1, c1, d1⟩ := t3 l1 h1
  obtain ⟨a2, b2, c2, d2⟩ := t3 l2 h2
  have s1 : tN (jb1 x) = 256 * (256 * (256 * 0 + sb1 l2) + sb1 l1) + sb1 l0 := by
    have hle : tN (jus x 1 &&& 1431655765) ≤ tN x := by
      rw [tN_and, show (1 : Int32) = nI 1 from rfl, jus_tN x 1 (by decide)]
      exact Nat.le_trans Nat.and_le_left (Nat.div_le_self _ _)
    rw [jb1, tN_sub _ _ hle, tN_and, show (1 : Int32) = nI 1 from rfl, jus_tN x 1 (by decide), hx, show tN 1431655765 = 256 * (256 * (256 * 85 + 85) + 85) + 85 from by decide +kernel]
    show nb1 _ _ = _
    rw [nb1_s _ _ _ h0, nb1_s _ _ _ h1, nb1_s _ _ _ h2]
    rfl
  have s2 : tN (jb2 (jb1 x)) = 256 * (256 * (256 * 0 + tb l2) + tb l1) + tb l0 := by
    have e : ∀ X, nb2 858993459 X = (X &&& 858993459) + (X / 2 ^ 2 &&& 858993459) := fun X => rfl
    have hv : nb2 (256 * (256 * (256 * 51 + 51) + 51) + 51) (256 * (256 * (256 * 0 + sb1 l2) + sb1 l1) + sb1 l0) = 256 * (256 * (256 * 0 + tb l2) + tb l1) + tb l0 := by
      rw [nb2_s _ _ _ a0, nb2_s _ _ _ a1, nb2_s _ _ _ a2]
      rfl
    have hq : tN 858993459 = 256 * (256 * (256 * 51 + 51) + 51) + 51 := by decide +kernel
    have hsum : tN (jb1 x &&& 858993459) + tN (jus (jb1 x) 2 &&& 858993459) = 256 * (256 * (256 * 0 + tb l2) + tb l1) + tb l0 := by
      rw [tN_and, tN_and, show (2 : Int32) = nI 2 from rfl, jus_tN _ 2 (by decide), s1, hq]
      exact hv
    rw [jb2, tN_add _ _ (by rw [hsum]; omega), hsum]
  have s3 : tN (jb3 (jb2 (jb1 x))) = 256 * (256 * (256 * 0 + ub l2) + ub l1) + ub l0 := by
    have hj : tN (jus (jb2 (jb1 x)) 4) = (256 * (256 * (256 * 0 + tb l2) + tb l1) + tb l0) / 16 := by
      rw [show (4 : Int32) = nI 4 from rfl, jus_tN _ 4 (by decide), s2]
    rw [jb3, tN_and, tN_add _ _ (by rw [hj, s2]; omega), hj, s2]
    have e : 256 * (256 * (256 * 0 + tb l2) + tb l1) + tb l0 + (256 * (256 * (256 * 0 + tb l2) + tb l1) + tb l0) / 16 = 256 * (256 * (256 * 0 + (tb l2 + tb l2 / 16 + 16 * 0)) + (tb l1 + tb l1 / 16 + 16 * (tb l2 % 16))) + (tb l0 + tb l0 / 16 + 16 * (tb l1 % 16)) := by omega
    obtain ⟨p0, q0⟩ := t4 l0 h0 (tb l1 % 16) (by omega)
    obtain ⟨p1, q1⟩ := t4 l1 h1 (tb l2 % 16) (by omega)
    obtain ⟨p2, q2⟩ := t4 l2 h2 0 (by omega)
    rw [e, show tN 252645135 = 256 * (256 * (256 * 15 + 15) + 15) + 15 from by decide +kernel, nd_split _ _ _ _ q0 (by decide), nd_split _ _ _ _ q1 (by decide), nd_split _ _ _ _ q2 (by decide), p0, p1, p2]
    simp
  have s4 : tN (jb4 (jb3 (jb2 (jb1 x)))) = 256 * (256 * ub l2 + (ub l1 + ub l2)) + (ub l0 + ub l1) := by
    have hj : tN (jus (jb3 (jb2 (jb1 x))) 8) = (256 * (256 * (256 * 0 + ub l2) + ub l1) + ub l0) / 256 := by
      rw [show (8 : Int32) = nI 8 from rfl, jus_tN _ 8 (by decide), s3]
    rw [jb4, tN_add _ _ (by rw [hj, s3]; omega), hj, s3]
    omega
  have s5 : tN (jb5 (jb4 (jb3 (jb2 (jb1 x))))) = 256 * (256 * ub l2 + (ub l1 + ub l2)) + (ub l0 + ub l1 + ub l2) := by
    have hj : tN (jus (jb4 (jb3 (jb2 (jb1 x)))) 16) = (256 * (256 * ub l2 + (ub l1 + ub l2)) + (ub l0 + ub l1)) / 65536 := by
      rw [show (16 : Int32) = nI 16 from rfl, jus_tN _ 16 (by decide), s4]
    rw [jb5, tN_add _ _ (by rw [hj, s4]; omega), hj, s4]
    omega
  rw [jbc, tN_and, s5, show tN 63 = 63 from by decide +kernel, and63]
  omega
theorem gc_shift {P : Nat → Prop} (a : Nat) : ∀ m, gc_n P (a + m) = gc_n P a + gc_n (fun i => P (a + i)) m
  | 0 => rfl
  | m + 1 => by
    have ih := gc_shift (P := P) a m
    by_cases h : P (a + m)
    · rw [show a + (m + 1) = (a + m) + 1 by omega, gc_s1 h, gc_s1 (P := fun i => P (a + i)) h, ih]; omega
    · rw [show a + (m + 1) = (a + m) + 1 by omega, gc_s0 h, gc_s0 (P := fun i => P (a + i)) h, ih]
theorem ub_gc (b : Nat) : ub b = gc_n (fun i => b.testBit i = true) 8 := by rw [ub, cnt_gc0, Nat.zero_add]
theorem jbc_ok {x : Int32} {S : Nat → Bool} (h : bm x S) (hS : ∀ i, 24 ≤ i → S i = false) : jbc x = nI (cnt_lp S 24 0 0) := by
  have hbit : ∀ i, i < 32 → (tN x).testBit i = S i := fun i hi => by
    rw [← h i hi]
    unfold bt tN
    exact (BitVec.testBit_toNat _).symm ▸ rfl
  have hlt : tN x < 2 ^ 24 := by
    apply Nat.lt_pow_two_of_testBit
    intro j hj
    rcases Nat.lt_or_ge j 32 with c | c
    · rw [hbit j c]; exact hS j (by omega)
    · exact Nat.testBit_lt_two_pow (Nat.lt_of_lt_of_le x.toBitVec.isLt (Nat.pow_le_pow_right (by decide) c))
  obtain ⟨l0, l1, l2, h0, h1, h2, hx⟩ : ∃ l0 l1 l2, l0 < 256 ∧ l1 < 256 ∧ l2 < 256 ∧ tN x = 256 * (256 * (256 * 0 + l2) + l1) + l0 := ⟨tN x % 256, tN x / 256 % 256, tN x / 65536, by omega, by omega, by omega, by omega⟩
  have key := jbc_bytes x l0 l1 l2 h0 h1 h2 hx
  have hcnt : cnt_lp S 24 0 0 = ub l0 + ub l1 + ub l2 := by
    rw [cnt_gc0, Nat.zero_add, gc_congr (P := fun i => S i = true) (Q := fun i => (tN x).testBit i = true) (fun i hi => by rw [hbit i (by omega)]), show 24 = 8 + (8 + 8) from rfl, gc_shift, gc_shift, ub_gc, ub_gc, ub_gc, Nat.add_assoc]
    have g : ∀ i, (tN x).testBit i = if i < 8 then l0.testBit i else if i - 8 < 8 then l1.testBit (i - 8) else l2.testBit (i - 8 - 8) := fun i => by
      rw [hx, show (256 : Nat) = 2 ^ 8 from rfl, Nat.testBit_two_pow_mul_add _ h0, Nat.testBit_two_pow_mul_add _ h1, Nat.mul_zero, Nat.zero_add]
    congr 1
    · exact gc_congr (fun i hi => by rw [g i, if_pos hi])
    · congr 1
      · exact gc_congr (fun i hi => by rw [g (8 + i), if_neg (by omega), if_pos (by omega), show 8 + i - 8 = i by omega])
      · exact gc_congr (fun i hi => by rw [g (8 + (8 + i)), if_neg (by omega), if_neg (by omega), show 8 + (8 + i) - 8 - 8 = i by omega])
  apply Int32.toBitVec_inj.mp
  apply BitVec.eq_of_toNat_eq
  have hle : cnt_lp S 24 0 0 ≤ 24 := by have := cnt_lp_le S 24 0 0; omega
  have hn : tN (nI (cnt_lp S 24 0 0)) = cnt_lp S 24 0 0 := by
    have : ∀ m, m < 25 → tN (nI m) = m := by decide +kernel
    exact this _ (by omega)
  show tN (jbc x) = tN (nI (cnt_lp S 24 0 0))
  rw [key, hn, hcnt]
