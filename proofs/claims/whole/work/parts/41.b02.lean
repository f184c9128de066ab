/-! STAGE B: bits -/
def yb (m : Int) (k : Nat) : Bool := (Int32.ofInt m).toBitVec.getLsbD k
def yl (m : Int) (k : Nat) : Bool := (Int64.ofInt m).toBitVec.getLsbD k
theorem yb_and (x y : Int) (k : Nat) : yb (zz_and x y) k = (yb x k && yb y k) := by
  unfold yb zz_and
  rw [Int32.ofInt_toInt, Int32.toBitVec_and, BitVec.getLsbD_and]
theorem yb_or (x y : Int) (k : Nat) : yb (zz_or x y) k = (yb x k || yb y k) := by
  unfold yb zz_or
  rw [Int32.ofInt_toInt, Int32.toBitVec_or, BitVec.getLsbD_or]
theorem yl_and (x y : Int) (k : Nat) : yl (zz_land x y) k = (yl x k && yl y k) := by
  unfold yl zz_land
  rw [Int64.ofInt_toInt, Int64.toBitVec_and, BitVec.getLsbD_and]
theorem yb_s : ∀ n : Nat, n < 32 → (Int32.ofInt (n : Int) &&& 31).toBitVec.smod 32 = BitVec.ofNat 32 n := by decide +kernel
theorem yl_s : ∀ n : Nat, n < 64 → ((Int32.ofInt (n : Int)).toInt64 &&& 63).toBitVec.smod 64 = BitVec.ofNat 64 n := by decide +kernel
theorem yb_one : ∀ n : Nat, n < 32 → (Int32.ofInt 1 <<< (Int32.ofInt (n : Int) &&& 31)).toBitVec = BitVec.twoPow 32 n := by decide +kernel
theorem yl_one : ∀ n : Nat, n < 64 → (Int64.ofInt 1 <<< ((Int32.ofInt (n : Int)).toInt64 &&& 63)).toBitVec = BitVec.twoPow 64 n := by decide +kernel
theorem yb_shl {a : Int} (h1 : 0 ≤ a) (h2 : a < 32) (k : Nat) : yb (zz_shl 1 a) k = decide (a = k) := by
  obtain ⟨n, rfl⟩ : ∃ n : Nat, a = n := ⟨a.toNat, by omega⟩
  unfold yb zz_shl
  rw [Int32.ofInt_toInt, yb_one n (by omega), BitVec.getLsbD_twoPow]
  rw [show decide (n < 32) = true from decide_eq_true (by omega), Bool.true_and]
  congr 1
  exact propext ⟨fun h => by omega, fun h => by omega⟩
theorem yl_shl {a : Int} (h1 : 0 ≤ a) (h2 : a < 64) (k : Nat) : yl (zz_lshl 1 a) k = decide (a = k) := by
  obtain ⟨n, rfl⟩ : ∃ n : Nat, a = n := ⟨a.toNat, by omega⟩
  unfold yl zz_lshl
  rw [Int64.ofInt_toInt, yl_one n (by omega), BitVec.getLsbD_twoPow]
  rw [show decide (n < 64) = true from decide_eq_true (by omega), Bool.true_and]
  congr 1
  exact propext ⟨fun h => by omega, fun h => by omega⟩
theorem yb_bit0 (y : Int) : (zz_and y 1 = 0) ↔ yb y 0 = false := by
  unfold yb zz_and
  generalize Int32.ofInt y = a
  rw [show (Int32.ofInt 1) = 1 from rfl, ← Int32.toInt_toBitVec, Int32.toBitVec_and]
  have e : (a.toBitVec &&& (1 : Int32).toBitVec) = BitVec.zeroExtend 32 (BitVec.ofBool (a.toBitVec.getLsbD 0)) := by
    rw [show (1 : Int32).toBitVec = 1#32 from rfl]
    ext i hi
    simp only [BitVec.getElem_and, BitVec.getElem_one, BitVec.getElem_setWidth, BitVec.getLsbD_ofBool]
    by_cases h : i = 0
    · subst h
      simp [BitVec.getLsbD_eq_getElem]
    · simp [h]
  rw [e]
  cases a.toBitVec.getLsbD 0 <;> decide
theorem yl_bit0 (y : Int) : (zz_land y 1 = 0) ↔ yl y 0 = false := by
  unfold yl zz_land
  generalize Int64.ofInt y = a
  rw [show (Int64.ofInt 1) = 1 from rfl, ← Int64.toInt_toBitVec, Int64.toBitVec_and]
  have e : (a.toBitVec &&& (1 : Int64).toBitVec) = BitVec.zeroExtend 64 (BitVec.ofBool (a.toBitVec.getLsbD 0)) := by
    rw [show (1 : Int64).toBitVec = 1#64 from rfl]
    ext i hi
    simp only [BitVec.getElem_and, BitVec.getElem_one, BitVec.getElem_setWidth, BitVec.getLsbD_ofBool]
    by_cases h : i = 0
    · subst h
      simp [BitVec.getLsbD_eq_getElem]
    · simp [h]
  rw [e]
  cases a.toBitVec.getLsbD 0 <;> decide
theorem yb_shr {a : Int} (m : Int) (h1 : 0 ≤ a) (h2 : a < 32) : yb (zz_shr m a) 0 = yb m a.toNat := by
  obtain ⟨n, rfl⟩ : ∃ n : Nat, a = n := ⟨a.toNat, by omega⟩
  unfold yb zz_shr
  rw [Int32.ofInt_toInt, Int32.toBitVec_shiftRight, yb_s n (by omega), BitVec.sshiftRight_eq', BitVec.getLsbD_sshiftRight]
  have : (BitVec.ofNat 32 n).toNat = n := by rw [BitVec.toNat_ofNat]; omega
  rw [this, Int.toNat_natCast]
  simp [show n < 32 by omega]
theorem yl_shr {a : Int} (m : Int) (h1 : 0 ≤ a) (h2 : a < 64) : yl (zz_lshr m a) 0 = yl m a.toNat := by
  obtain ⟨n, rfl⟩ : ∃ n : Nat, a = n := ⟨a.toNat, by omega⟩
  unfold yl zz_lshr
  rw [Int64.ofInt_toInt, Int64.toBitVec_shiftRight, yl_s n (by omega), BitVec.sshiftRight_eq', BitVec.getLsbD_sshiftRight]
  have : (BitVec.ofNat 64 n).toNat = n := by rw [BitVec.toNat_ofNat]; omega
  rw [this, Int.toNat_natCast]
  simp [show n < 64 by omega]
theorem yb_test {a : Int} (m : Int) (h1 : 0 ≤ a) (h2 : a < 32) : (zz_and (zz_shr m a) 1 = 0) ↔ yb m a.toNat = false := by
  rw [yb_bit0, yb_shr m h1 h2]
theorem zz_lc0 (x : Int) : zz_lc x 0 = 0 ↔ x = 0 := by
  unfold zz_lc
  split
  · exact ⟨fun h => absurd h (by decide), fun h => by omega⟩
  · split
    · exact ⟨fun _ => by assumption, fun _ => rfl⟩
    · exact ⟨fun h => absurd h (by decide), fun h => absurd h (by assumption)⟩
theorem yl_test {a : Int} (m : Int) (h1 : 0 ≤ a) (h2 : a < 64) : (zz_lc (zz_land (zz_lshr m a) 1) 0 = 0) ↔ yl m a.toNat = false := by
  rw [zz_lc0, yl_bit0, yl_shr m h1 h2]
theorem yb_neg (k : Nat) (h : k < 32) : yb (-1) k = true := by
  have : ∀ k : Nat, k < 32 → yb (-1) k = true := by decide +kernel
  exact this k h
theorem yl_neg (k : Nat) (h : k < 64) : yl (-1) k = true := by
  have : ∀ k : Nat, k < 64 → yl (-1) k = true := by decide +kernel
  exact this k h
theorem yb_zero (k : Nat) : yb 0 k = false := BitVec.getLsbD_zero
theorem yl_zero (k : Nat) : yl 0 k = false := BitVec.getLsbD_zero
theorem zz_and7 (x : Int) : 0 ≤ zz_and x 7 ∧ zz_and x 7 < 8 := by
  unfold zz_and
  generalize Int32.ofInt x = a
  rw [show (Int32.ofInt 7) = 7 from rfl, ← Int32.toInt_toBitVec, Int32.toBitVec_and, show (7 : Int32).toBitVec = 7#32 from rfl]
  have h : (a.toBitVec &&& 7#32).toNat ≤ 7 := by
    rw [BitVec.toNat_and]
    exact Nat.and_le_right
  rw [BitVec.toInt_eq_toNat_of_lt (by omega)]
  omega
