/-! bits of longs -/
def hsF (x : Int64) (i : Int32) : Bool := decide ((x.toUInt64 >>> (i.toInt64.toUInt64 &&& Int64.toUInt64 63)).toInt64 &&& 1 = 1)
theorem sh63 : ∀ i, i < 64 → (((nI i).toInt64.toUInt64 &&& Int64.toUInt64 63).toBitVec % 64) = BitVec.ofNat 64 i := by decide
theorem sh63' : ∀ i, i < 64 → (((nI i).toInt64 &&& 63).toBitVec.smod 64) = BitVec.ofNat 64 i := by decide
theorem hsF_bv (x : Int64) {i : Nat} (h : i < 64) : hsF x (nI i) = x.toBitVec.getLsbD i := by
  unfold hsF
  have e0 : ((x.toUInt64 >>> ((nI i).toInt64.toUInt64 &&& Int64.toUInt64 63)).toInt64).toBitVec = x.toBitVec >>> i := by
    show (x.toUInt64 >>> ((nI i).toInt64.toUInt64 &&& Int64.toUInt64 63)).toBitVec = _
    rw [UInt64.toBitVec_shiftRight, sh63 i h, BitVec.ushiftRight_eq', BitVec.toNat_ofNat, Nat.mod_eq_of_lt (by omega)]
    rfl
  have e : ((x.toUInt64 >>> ((nI i).toInt64.toUInt64 &&& Int64.toUInt64 63)).toInt64 &&& 1 = 1) ↔ x.toBitVec.getLsbD i = true := by
    rw [← Int64.toBitVec_inj, Int64.toBitVec_and, e0]
    show x.toBitVec >>> i &&& 1#64 = 1#64 ↔ _
    rw [BitVec.and_one_eq_setWidth_ofBool_getLsbD, BitVec.getLsbD_ushiftRight, Nat.add_zero]
    cases x.toBitVec.getLsbD i <;> decide
  by_cases hx : x.toBitVec.getLsbD i = true
  · rw [hx, decide_eq_true (e.mpr hx)]
  · rw [decide_eq_false (fun z => hx (e.mp z))]
    rw [Bool.not_eq_true] at hx
    exact hx.symm
theorem lshl_bv {a : Nat} (h : a < 64) : ((1 : Int64) <<< ((nI a).toInt64 &&& 63)).toBitVec = 1#64 <<< a := by
  rw [Int64.toBitVec_shiftLeft, sh63' a h, BitVec.shiftLeft_eq', BitVec.toNat_ofNat, Nat.mod_eq_of_lt (by omega)]
  rfl
theorem hsF_or (x : Int64) {a i : Nat} (ha : a < 64) (h : i < 64) : hsF (x ||| ((1 : Int64) <<< ((nI a).toInt64 &&& 63))) (nI i) = (hsF x (nI i) || decide (i = a)) := by
  rw [hsF_bv _ h, hsF_bv _ h, Int64.toBitVec_or, BitVec.getLsbD_or, lshl_bv ha, BitVec.getLsbD_shiftLeft]
  congr 1
  rw [BitVec.getLsbD_one]
  by_cases hi : i = a
  · subst hi
    simp [h]
  · by_cases h2 : i < a
    · simp [hi, h2]
    · have : i - a ≠ 0 := by omega
      simp [hi, this]
theorem hsF_0 {i : Nat} (h : i < 64) : hsF 0 (nI i) = false := by
  rw [hsF_bv _ h]
  show (0#64).getLsbD i = false
  exact BitVec.getLsbD_zero
theorem hsF_1 {i : Nat} (h : i < 64) : hsF 1 (nI i) = decide (i = 0) := by
  rw [hsF_bv _ h]
  show (1#64).getLsbD i = decide (i = 0)
  rw [BitVec.getLsbD_one]
  simp
theorem or_lt64 {u c : Nat} (hu : u < 64) (hc : c < 6) : u ||| 2 ^ c < 64 := by
  have h1 : 2 ^ c < 2 ^ 6 := Nat.pow_lt_pow_right (by decide) hc
  exact Nat.or_lt_two_pow (n := 6) hu h1
theorem or_top {a e : Nat} (h : a < 2 ^ e) : a ||| 2 ^ e = 2 ^ e + a := by
  have h2 := Nat.two_pow_add_eq_or_of_lt h 1
  rw [Nat.mul_one] at h2
  rw [Nat.or_comm, ← h2]
theorem msk_mod : ∀ e, e < 6 → (((2 : Int32) <<< (nI e &&& 31)) - 1) = nI (2 ^ (e + 1) - 1) := by decide
theorem and_msk (A : Nat) {e : Nat} (h : e < 6) : nI A &&& (((2 : Int32) <<< (nI e &&& 31)) - 1) = nI (A % 2 ^ (e + 1)) := by
  rw [msk_mod e h, nI_and, Nat.and_two_pow_sub_one_eq_mod]

