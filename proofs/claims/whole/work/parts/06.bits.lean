/-! ===== Int32 by its bits: bt x i ===== -/
def bt (x : Int32) (i : Nat) : Bool := x.toBitVec.getLsbD i
theorem b_ext {x y : Int32} (h : ∀ i, i < 32 → bt x i = bt y i) : x = y := Int32.toBitVec_inj.mp (BitVec.eq_of_getLsbD_eq (fun i hi => h i hi))
theorem b_or (x y : Int32) (i : Nat) : bt (x ||| y) i = (bt x i || bt y i) := by unfold bt; rw [Int32.toBitVec_or, BitVec.getLsbD_or]
theorem b_and (x y : Int32) (i : Nat) : bt (x &&& y) i = (bt x i && bt y i) := by unfold bt; rw [Int32.toBitVec_and, BitVec.getLsbD_and]
theorem b_xor (x y : Int32) (i : Nat) : bt (x ^^^ y) i = (bt x i ^^ bt y i) := by unfold bt; rw [Int32.toBitVec_xor, BitVec.getLsbD_xor]
theorem b_big {x : Int32} {i : Nat} (h : 32 ≤ i) : bt x i = false := BitVec.getLsbD_of_ge _ _ h
theorem b_255 (i : Nat) : bt 255 i = decide (i < 8) := by
  rcases Nat.lt_or_ge i 32 with h | h
  · exact (by decide +kernel : ∀ i, i < 32 → bt 255 i = decide (i < 8)) i h
  · rw [b_big h, decide_eq_false (by omega)]
theorem b_65535 (i : Nat) : bt 65535 i = decide (i < 16) := by
  rcases Nat.lt_or_ge i 32 with h | h
  · exact (by decide +kernel : ∀ i, i < 32 → bt 65535 i = decide (i < 16)) i h
  · rw [b_big h, decide_eq_false (by omega)]
theorem b_m1 : ∀ i, i < 32 → bt (-1) i = true := by decide +kernel
theorem b_0 (i : Nat) : bt 0 i = false := BitVec.getLsbD_zero
theorem s_l : ∀ n, n < 32 → ((nI n &&& 31).toBitVec.smod 32).toNat = n := by decide +kernel
theorem s_u : ∀ n, n < 32 → (((nI n).toUInt32 &&& Int32.toUInt32 31).toBitVec % 32).toNat = n := by decide +kernel
theorem b_shl (n : Nat) (hn : n < 32) (x : Int32) {i : Nat} (hi : i < 32) : bt (x <<< (nI n &&& 31)) i = (decide (n ≤ i) && bt x (i - n)) := by
  unfold bt
  rw [Int32.toBitVec_shiftLeft]
  show (x.toBitVec <<< ((nI n &&& 31).toBitVec.smod 32).toNat).getLsbD i = _
  rw [s_l n hn, BitVec.getLsbD_shiftLeft]
  rcases Nat.lt_or_ge i n with h | h
  · simp [h, Nat.not_le.mpr h]
  · simp [hi, h, Nat.not_lt.mpr h]
theorem b_ushr (n : Nat) (hn : n < 32) (x : Int32) (i : Nat) : bt ((x.toUInt32 >>> ((nI n).toUInt32 &&& Int32.toUInt32 31)).toInt32) i = bt x (n + i) := by
  show (x.toUInt32 >>> ((nI n).toUInt32 &&& Int32.toUInt32 31)).toBitVec.getLsbD i = x.toUInt32.toBitVec.getLsbD (n + i)
  rw [UInt32.toBitVec_shiftRight]
  show (x.toUInt32.toBitVec >>> (((nI n).toUInt32 &&& Int32.toUInt32 31).toBitVec % 32).toNat).getLsbD i = _
  rw [s_u n hn, BitVec.getLsbD_ushiftRight]
theorem b_sshr (n : Nat) (hn : n < 32) (x : Int32) {i : Nat} (hi : i < 32) : bt (x >>> (nI n &&& 31)) i = if n + i < 32 then bt x (n + i) else bt x 31 := by
  unfold bt
  rw [Int32.toBitVec_shiftRight]
  show (x.toBitVec.sshiftRight ((nI n &&& 31).toBitVec.smod 32).toNat).getLsbD i = _
  rw [s_l n hn, BitVec.getLsbD_sshiftRight, BitVec.msb_eq_getLsbD_last]
  simp [hi]
theorem b_shl8 (x : Int32) {i : Nat} (hi : i < 32) : bt (x <<< ((8 : Int32) &&& 31)) i = (decide (8 ≤ i) && bt x (i - 8)) := b_shl 8 (by omega) x hi
theorem b_shl16 (x : Int32) {i : Nat} (hi : i < 32) : bt (x <<< ((16 : Int32) &&& 31)) i = (decide (16 ≤ i) && bt x (i - 16)) := b_shl 16 (by omega) x hi
theorem b_shl24 (x : Int32) {i : Nat} (hi : i < 32) : bt (x <<< ((24 : Int32) &&& 31)) i = (decide (24 ≤ i) && bt x (i - 24)) := b_shl 24 (by omega) x hi
theorem b_sshr8 (x : Int32) {i : Nat} (hi : i < 32) : bt (x >>> ((8 : Int32) &&& 31)) i = if 8 + i < 32 then bt x (8 + i) else bt x 31 := b_sshr 8 (by omega) x hi

theorem b_one : ∀ i, i < 32 → bt 1 i = decide (i = 0) := by decide +kernel
theorem b_pow {n i : Nat} (hn : n < 32) (hi : i < 32) : bt (1 <<< (nI n &&& 31)) i = decide (i = n) := by
  rw [b_shl n hn 1 hi]
  rcases Nat.lt_trichotomy i n with h | h | h
  · simp [Nat.not_le.mpr h, Nat.ne_of_lt h]
  · subst h; rw [Nat.sub_self, b_one 0 (by omega)]; simp
  · rw [b_one _ (by omega)]; simp [Nat.le_of_lt h, Nat.ne_of_gt h, Nat.sub_ne_zero_of_lt h]
theorem b_not (x : Int32) {i : Nat} (hi : i < 32) : bt (x ^^^ (-1)) i = !bt x i := by rw [b_xor, b_m1 i hi]; simp
theorem b_tst (x : Int32) {n : Nat} (hn : n < 32) : ((x >>> (nI n &&& 31)) &&& 1) = if bt x n then 1 else 0 := by
  apply b_ext
  intro i hi
  rw [b_and, b_sshr n hn x hi, b_one i hi]
  by_cases h : i = 0
  · subst h
    rw [if_pos (by omega : n + 0 < 32)]
    cases hb : bt x n <;> simp [hb, b_0, b_one]
  · cases hb : bt x n <;> simp [h, b_0, b_one i hi]
theorem b_tst1 (x : Int32) {n : Nat} (hn : n < 32) : ((x >>> (nI n &&& 31)) &&& 1) = 1 ↔ bt x n = true := by
  rw [b_tst x hn]; cases bt x n <;> decide
theorem b_tst0 (x : Int32) {n : Nat} (hn : n < 32) : ((x >>> (nI n &&& 31)) &&& 1) = 0 ↔ bt x n = false := by
  rw [b_tst x hn]; cases bt x n <;> decide
theorem b_zero {x : Int32} : x = 0 ↔ ∀ i, i < 32 → bt x i = false := ⟨fun h i _ => by rw [h, b_0], fun h => b_ext fun i hi => by rw [h i hi, b_0]⟩
/-- x holds the set S of numbers below 32 -/
def bm (x : Int32) (S : Nat → Bool) : Prop := ∀ i, i < 32 → bt x i = S i
theorem bm_0 : bm 0 (fun _ => false) := fun i _ => b_0 i
theorem bm_pow {n : Nat} (hn : n < 32) : bm (1 <<< (nI n &&& 31)) (fun i => decide (i = n)) := fun _ hi => b_pow hn hi
theorem bm_or {x y : Int32} {S T : Nat → Bool} (h : bm x S) (g : bm y T) : bm (x ||| y) (fun i => S i || T i) := fun i hi => by rw [b_or, h i hi, g i hi]
theorem bm_and {x y : Int32} {S T : Nat → Bool} (h : bm x S) (g : bm y T) : bm (x &&& y) (fun i => S i && T i) := fun i hi => by rw [b_and, h i hi, g i hi]
theorem bm_not {x : Int32} {S : Nat → Bool} (h : bm x S) : bm (x ^^^ (-1)) (fun i => !S i) := fun i hi => by rw [b_not x hi, h i hi]
theorem bm_eq {x : Int32} {S T : Nat → Bool} (h : bm x S) (e : ∀ i, i < 32 → S i = T i) : bm x T := fun i hi => (h i hi).trans (e i hi)
theorem bm_inj {x y : Int32} {S : Nat → Bool} (h : bm x S) (g : bm y S) : x = y := b_ext fun i hi => (h i hi).trans (g i hi).symm
theorem bm_tst {x : Int32} {S : Nat → Bool} (h : bm x S) {n : Nat} (hn : n < 32) : ((x >>> (nI n &&& 31)) &&& 1) = if S n then 1 else 0 := by rw [b_tst x hn, h n hn]
/-- an optional number as an int: none is -1 -/
def oI (r : Option Nat) : Int32 := match r with
  | none => -1
  | some n => nI n
theorem oI_neg {r : Option Nat} (h : ∀ n, r = some n → n < 2 ^ 31) : oI r < 0 ↔ r = none := by
  cases r with
  | none => exact ⟨fun _ => rfl, fun _ => by show (-1 : Int32) < 0; decide⟩
  | some n => exact ⟨fun q => absurd q (nI_pos (h n rfl)), fun q => by cases q⟩
theorem oI_inj {r t : Option Nat} (h : ∀ n, r = some n → n < 2 ^ 31) (g : ∀ n, t = some n → n < 2 ^ 31) (e : oI r = oI t) : r = t := by
  cases r with
  | none =>
    cases t with
    | none => rfl
    | some m =>
      have : oI (some m) < 0 := e ▸ (by show (-1 : Int32) < 0; decide)
      exact absurd this (nI_pos (g m rfl))
  | some n =>
    cases t with
    | none =>
      have : oI (some n) < 0 := e.symm ▸ (by show (-1 : Int32) < 0; decide)
      exact absurd this (nI_pos (h n rfl))
    | some m => rw [(nI_eq (h n rfl) (g m rfl)).mp e]
