theorem tb_bitsN (p : Nat → Bool) : ∀ (n i : Nat), (bitsN p n).testBit i = (decide (i < n) && p i)
  | 0, i => by rw [bitsN, Nat.zero_testBit]; simp
  | n + 1, i => by
    have h1 := bitsN_lt p n
    have ih := tb_bitsN p n i
    unfold bitsN
    by_cases hp : p n = true
    · rw [hp, if_pos rfl, Nat.add_comm]
      rcases Nat.lt_trichotomy i n with h | h | h
      · rw [Nat.testBit_two_pow_add_gt h, ih, decide_eq_true h, decide_eq_true (by omega)]
      · subst h
        rw [Nat.testBit_two_pow_add_eq, Nat.testBit_lt_two_pow h1, hp, decide_eq_true (by omega)]
        rfl
      · rw [decide_eq_false (by omega), Bool.false_and]
        apply Nat.testBit_lt_two_pow
        have : 2 ^ (n + 1) ≤ 2 ^ i := Nat.pow_le_pow_right (by decide) h
        rw [Nat.pow_succ] at this
        omega
    · rw [Bool.not_eq_true] at hp
      rw [hp]
      show (bitsN p n + 0).testBit i = _
      rw [Nat.add_zero, ih]
      rcases Nat.lt_trichotomy i n with h | h | h
      · rw [decide_eq_true h, decide_eq_true (by omega)]
      · subst h; rw [hp]; simp
      · rw [decide_eq_false (by omega), decide_eq_false (by omega)]
theorem sh31 : ∀ i, i < 32 → (((nI i).toUInt32 &&& Int32.toUInt32 31).toBitVec % 32) = BitVec.ofNat 32 i := by decide
theorem ushr_bv (x : Int32) {i : Nat} (h : i < 32) : (ushr x (nI i)).toBitVec = x.toBitVec >>> i := by
  show (x.toUInt32 >>> ((nI i).toUInt32 &&& Int32.toUInt32 31)).toBitVec = _
  rw [UInt32.toBitVec_shiftRight, sh31 i h, BitVec.ushiftRight_eq', BitVec.toNat_ofNat, Nat.mod_eq_of_lt (by omega)]
  rfl
theorem hbF_bv (x : Int32) {i : Nat} (h : i < 32) : hbF x (nI i) = x.toBitVec.getLsbD i := by
  unfold hbF
  have e : (ushr x (nI i) &&& 1 = 1) ↔ x.toBitVec.getLsbD i = true := by
    rw [← Int32.toBitVec_inj, Int32.toBitVec_and, ushr_bv x h]
    show x.toBitVec >>> i &&& 1#32 = 1#32 ↔ _
    rw [BitVec.and_one_eq_setWidth_ofBool_getLsbD, BitVec.getLsbD_ushiftRight, Nat.add_zero]
    cases x.toBitVec.getLsbD i <;> decide
  by_cases hx : x.toBitVec.getLsbD i = true
  · rw [hx, decide_eq_true (e.mpr hx)]
  · rw [decide_eq_false (fun z => hx (e.mp z))]
    rw [Bool.not_eq_true] at hx
    exact hx.symm
theorem nI_lsb (n : Nat) {i : Nat} (h : i < 32) : (nI n).toBitVec.getLsbD i = n.testBit i := by
  show (BitVec.ofNat 32 n).getLsbD i = _
  rw [BitVec.getLsbD_ofNat, decide_eq_true h, Bool.true_and]
theorem hbF_nI (n : Nat) {i : Nat} (h : i < 32) : hbF (nI n) (nI i) = n.testBit i := by
  rw [hbF_bv _ h, nI_lsb n h]
theorem m1_lsb {i : Nat} (h : i < 32) : (-1 : Int32).toBitVec.getLsbD i = true := by
  have : (-1 : Int32).toBitVec = BitVec.allOnes 32 := by decide
  rw [this, BitVec.getLsbD_allOnes, decide_eq_true h]
theorem hbF_an (a u : Nat) {i : Nat} (h : i < 32) : hbF (nI a &&& (nI u ^^^ -1)) (nI i) = (a.testBit i && !u.testBit i) := by
  rw [hbF_bv _ h, Int32.toBitVec_and, BitVec.getLsbD_and, Int32.toBitVec_xor, BitVec.getLsbD_xor, nI_lsb a h, nI_lsb u h, m1_lsb h, Bool.xor_true]
theorem nI_xor (a b : Nat) : nI a ^^^ nI b = nI (a ^^^ b) := by
  apply Int32.toBitVec_inj.mp
  show BitVec.ofNat 32 a ^^^ BitVec.ofNat 32 b = BitVec.ofNat 32 (a ^^^ b)
  exact (BitVec.ofNat_xor ..).symm
theorem nI_and (a b : Nat) : nI a &&& nI b = nI (a &&& b) := by
  apply Int32.toBitVec_inj.mp
  show BitVec.ofNat 32 a &&& BitVec.ofNat 32 b = BitVec.ofNat 32 (a &&& b)
  exact (BitVec.ofNat_and ..).symm
theorem nI_bx {x y : Int32} (h : ∀ i, i < 32 → x.toBitVec.getLsbD i = y.toBitVec.getLsbD i) : x = y := Int32.toBitVec_inj.mp (BitVec.eq_of_getLsbD_eq h)
theorem clo_bits (p : Nat → Bool) {n : Nat} (hn : n ≤ 6) : (((1 : Int32) <<< (nI n &&& 31)) - 1) &&& (nI (bitsN p n) ^^^ -1) = nI (bitsN (fun e => !p e) n) := by
  have e : ((1 : Int32) <<< (nI n &&& 31)) - 1 = nI (bitsN (fun _ => true) n) := by
    have : ∀ n, n ≤ 6 → ((1 : Int32) <<< (nI n &&& 31)) - 1 = nI (bitsN (fun _ => true) n) := by decide
    exact this n hn
  rw [e]
  apply nI_bx
  intro i hi
  rw [Int32.toBitVec_and, BitVec.getLsbD_and, Int32.toBitVec_xor, BitVec.getLsbD_xor, nI_lsb _ hi, nI_lsb _ hi, nI_lsb _ hi, m1_lsb hi, tb_bitsN, tb_bitsN, tb_bitsN]
  cases decide (i < n) <;> simp
def pcN (a : Nat) : Nat := cntN (fun i => a.testBit i) 6
theorem bcF_64 : ∀ a, a < 64 → bcF (nI a) = nI (pcN a) := by decide +kernel
theorem or_lt32 {u c : Nat} (hu : u < 32) (hc : c < 5) : u ||| 2 ^ c < 32 := by
  have h1 : 2 ^ c < 2 ^ 5 := Nat.pow_lt_pow_right (by decide) hc
  exact Nat.or_lt_two_pow (n := 5) hu h1
theorem xor_lt : ∀ a, a < 64 → ∀ c, c < 6 → a.testBit c = true → a ^^^ 2 ^ c < a := by decide +kernel

