/-! subsets, one behind the other -/
def chL (S : Nat) : Nat → Nat → List Nat
  | 0, _ => []
  | n + 1, p => if p = 0 then [] else p :: chL S n ((p - 1) &&& S)
def anN (op S : Nat) : Nat := bitsN (fun i => op.testBit i && !S.testBit i) 6
theorem an_nI {op : Nat} (h : op < 64) (S : Nat) : nI op &&& (nI S ^^^ -1) = nI (anN op S) := by
  apply nI_bx
  intro i hi
  rw [Int32.toBitVec_and, BitVec.getLsbD_and, Int32.toBitVec_xor, BitVec.getLsbD_xor, nI_lsb _ hi, nI_lsb _ hi, nI_lsb _ hi, m1_lsb hi, anN, tb_bitsN, Bool.xor_true]
  by_cases h6 : i < 6
  · rw [decide_eq_true h6, Bool.true_and]
  · rw [Nat.testBit_lt_two_pow (show op < 2 ^ i from Nat.lt_of_lt_of_le h (Nat.pow_le_pow_right (by decide) (show 6 ≤ i by omega) : 2 ^ 6 ≤ 2 ^ i))]
    simp
theorem anN_lt (op S : Nat) : anN op S < 64 := bitsN_lt _ 6
theorem an_0 : ∀ S, S < 64 → ∀ op, op < 64 → (anN S op = 0 ↔ S &&& op = S) := by decide +kernel
theorem sx_le : ∀ S, S < 64 → ∀ P, P < 64 → P &&& S = P → S ^^^ P ≤ S ∧ S ^^^ P < 64 := by decide +kernel
theorem sd_sub : ∀ S, S < 64 → ∀ P, P < 64 → ((P - 1) &&& S) &&& S = (P - 1) &&& S := by
  intro S _ P _
  rw [Nat.and_assoc, Nat.and_self]
theorem and_lt64 (a : Nat) {S : Nat} (h : S < 64) : a &&& S < 64 := Nat.and_lt_two_pow (n := 6) a h
theorem ch_all : ∀ S, S < 64 → ∀ Q, Q < 64 → Q ≠ 0 → Q &&& S = Q → (chL S 64 S).contains Q = true := by decide +kernel
theorem ch_sub (S : Nat) : ∀ n p Q, p &&& S = p → Q ∈ chL S n p → Q ≠ 0 ∧ Q &&& S = Q
  | 0, p, Q, _, h => by rw [chL] at h; cases h
  | n + 1, p, Q, hp, h => by
    rw [chL] at h
    split at h
    · cases h
    · rename_i h0
      rcases List.mem_cons.mp h with rfl | h
      · exact ⟨h0, hp⟩
      · exact ch_sub S n _ Q (by rw [Nat.and_assoc, Nat.and_self]) h

