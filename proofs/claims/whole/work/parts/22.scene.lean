theorem L0 : (0 : Int32) = nI 0 := rfl
theorem L1 : (1 : Int32) = nI 1 := rfl
theorem L2 : (2 : Int32) = nI 2 := rfl
theorem L3 : (3 : Int32) = nI 3 := rfl
theorem L6 : (6 : Int32) = nI 6 := rfl
theorem L15 : (15 : Int32) = nI 15 := rfl
theorem L32 : (32 : Int32) = nI 32 := rfl
theorem L33 : (33 : Int32) = nI 33 := rfl
theorem L39 : (39 : Int32) = nI 39 := rfl
theorem L64 : (64 : Int32) = nI 64 := rfl
/-- bits of those below n that have p -/
def bitsN (p : Nat → Bool) : Nat → Nat
  | 0 => 0
  | n + 1 => bitsN p n + if p n then 2 ^ n else 0
theorem bitsN_lt (p : Nat → Bool) : ∀ n, bitsN p n < 2 ^ n
  | 0 => by rw [bitsN]; decide
  | n + 1 => by
    have := bitsN_lt p n
    unfold bitsN
    rw [Nat.pow_succ]
    split <;> omega
theorem nI_or (a b : Nat) : nI a ||| nI b = nI (a ||| b) := by
  apply Int32.toBitVec_inj.mp
  show BitVec.ofNat 32 a ||| BitVec.ofNat 32 b = BitVec.ofNat 32 (a ||| b)
  exact (BitVec.ofNat_or ..).symm
theorem nI_shl : ∀ n, n < 31 → (1 : Int32) <<< (nI n &&& 31) = nI (2 ^ n) := by decide
theorem bitsN_or (p : Nat → Bool) {n : Nat} (hn : n < 31) (h : p n = true) : nI (bitsN p n) ||| ((1 : Int32) <<< (nI n &&& 31)) = nI (bitsN p (n + 1)) := by
  rw [nI_shl n hn, nI_or]
  have h1 := bitsN_lt p n
  have : bitsN p n ||| 2 ^ n = bitsN p n + 2 ^ n := by
    have h2 := Nat.two_pow_add_eq_or_of_lt h1 1
    rw [Nat.mul_one] at h2
    rw [Nat.or_comm, ← h2, Nat.add_comm]
  rw [this, bitsN, h]
  rfl
theorem bitsN_no (p : Nat → Bool) {n : Nat} (h : p n = false) : bitsN p (n + 1) = bitsN p n := by
  rw [bitsN, h]; rfl
theorem bitsN_cg {p q : Nat → Bool} : ∀ {n : Nat}, (∀ k, k < n → p k = q k) → bitsN p n = bitsN q n
  | 0, _ => rfl
  | n + 1, h => by rw [bitsN, bitsN, bitsN_cg (fun k hk => h k (by omega)), h n (by omega)]
section
variable (d : Nat) (fm : Value) (X : Nat × (Nat → Int32)) (s : Nat → Nat → Int32) (t : Nat → Nat → Int64)
theorem t_Sc_levelOf {c f : Nat} (hc : c < 5) (hf : f < 3) : ab_T g_Sc_levelOf (d + 1) (0, 0) [.ref 10, .int (nI c), .int (nI f)] (HA fm X s t) (PI (s 11 (3 * c + f)) (HA fm X s t)) := by
  refine ab_T_of (M := m_Sc_levelOf) rfl rfl (Nat.le_of_ble_eq_true rfl) ?_
  show ab_Z m_Sc_levelOf _ _ _ 0 [_, _, _] [] _
  refine ab_go ok_Sc_levelOf 7 rfl ?_
  show ab_Z m_Sc_levelOf _ _ _ 7 [_, _, _] [_, _] _
  refine ab_cl ok_Sc_levelOf rfl [_, _] [] rfl rfl (Nat.le_of_ble_eq_true rfl) (t_SF_at_11 d fm X s t _ (3 * c + f) (by omega) (by rw [L3, pk_mul, nI_add, Nat.mul_comm])) ?_
  rintro _ _ ⟨rfl, rfl⟩
  show ab_Z m_Sc_levelOf _ _ _ 8 [_, _, _] [_] _
  exact ab_rI ok_Sc_levelOf rfl (⟨rfl, rfl⟩)
theorem t_Sc_printOf {c f : Nat} (hc : c < 6) (hf : f < 3) : ab_T g_Sc_printOf (d + 1) (0, 0) [.ref 10, .int (nI c), .int (nI f)] (HA fm X s t) (PI (s 11 (15 + 3 * c + f)) (HA fm X s t)) := by
  refine ab_T_of (M := m_Sc_printOf) rfl rfl (Nat.le_of_ble_eq_true rfl) ?_
  show ab_Z m_Sc_printOf _ _ _ 0 [_, _, _] [] _
  refine ab_go ok_Sc_printOf 9 rfl ?_
  show ab_Z m_Sc_printOf _ _ _ 9 [_, _, _] [_, _] _
  refine ab_cl ok_Sc_printOf rfl [_, _] [] rfl rfl (Nat.le_of_ble_eq_true rfl) (t_SF_at_11 d fm X s t _ (15 + 3 * c + f) (by omega) (by rw [L3, L15, pk_mul, nI_add, nI_add, Nat.mul_comm])) ?_
  rintro _ _ ⟨rfl, rfl⟩
  show ab_Z m_Sc_printOf _ _ _ 10 [_, _, _] [_] _
  exact ab_rI ok_Sc_printOf rfl (⟨rfl, rfl⟩)
theorem t_Sc_yearNow : ab_T g_Sc_yearNow d (0, 0) [.ref 10] (HA fm X s t) (PI (s 11 39) (HA fm X s t)) := by
  refine ab_T_of (M := m_Sc_yearNow) rfl rfl (Nat.le_of_ble_eq_true rfl) ?_
  show ab_Z m_Sc_yearNow _ _ _ 0 [_] [] _
  refine ab_go ok_Sc_yearNow 3 rfl ?_
  show ab_Z m_Sc_yearNow _ _ _ 3 [_] [_, _] _
  refine ab_go ok_Sc_yearNow 1 rfl ?_
  show ab_Z m_Sc_yearNow _ _ _ 4 [_] [_] _
  exact ab_rI ok_Sc_yearNow rfl (⟨rfl, rfl⟩)
theorem t_Sc_sealerOf {c : Nat} (hc : c < 6) : ab_T g_Sc_sealerOf d (0, 0) [.ref 10, .int (nI c)] (HA fm X s t) (PI (s 11 (33 + c)) (HA fm X s t)) := by
  refine ab_T_of (M := m_Sc_sealerOf) rfl rfl (Nat.le_of_ble_eq_true rfl) ?_
  show ab_Z m_Sc_sealerOf _ _ _ 0 [_, _] [] _
  refine ab_go ok_Sc_sealerOf 1 rfl ?_
  show ab_Z m_Sc_sealerOf _ _ _ 1 [_, _] [_] _
  refine ab_br ok_Sc_sealerOf rfl rfl ?_ ?_
  · intro h1
    show ab_Z m_Sc_sealerOf _ _ _ 12 [_, _] [] _
    exact absurd h1 (nI_l0 (by omega))
  · intro h1
    show ab_Z m_Sc_sealerOf _ _ _ 2 [_, _] [] _
    refine ab_go ok_Sc_sealerOf 2 rfl ?_
    show ab_Z m_Sc_sealerOf _ _ _ 4 [_, _] [_, _] _
    refine ab_br ok_Sc_sealerOf rfl rfl ?_ ?_
    · intro h2
      show ab_Z m_Sc_sealerOf _ _ _ 12 [_, _] [] _
      exact absurd h2 (lp_in (N := 6) (by decide) hc)
    · intro h2
      show ab_Z m_Sc_sealerOf _ _ _ 5 [_, _] [] _
      refine ab_go ok_Sc_sealerOf 5 rfl ?_
      show ab_Z m_Sc_sealerOf _ _ _ 10 [_, _] [_, _] _
      rw [L33, nI_add]
      refine ab_ck ok_Sc_sealerOf rfl rfl (by rw [nI_t (by omega)]; omega) ?_
      show ab_Z m_Sc_sealerOf _ _ _ 11 [_, _] [_] _
      refine ab_go ok_Sc_sealerOf 1 rfl ?_
      show ab_Z m_Sc_sealerOf _ _ _ 13 [_, _] [_] _
      rw [nI_c (by omega)]
      exact ab_rI ok_Sc_sealerOf rfl (⟨rfl, rfl⟩)
def upSt (s : Nat → Nat → Int32) : Nat → Nat → Int32 := ab_up s 10 1 (s 10 1 + 1)
theorem t_Sc_setLevel {c f : Nat} (v : Int32) (hc : c < 5) (hf : f < 3) : ab_T g_Sc_setLevel (d + 1) (0, 0) [.ref 10, .int (nI c), .int (nI f), .int v] (HA fm X s t) (PV (HA fm X (upSt (ab_up s 11 (3 * c + f) v)) t)) := by
  refine ab_T_of (M := m_Sc_setLevel) rfl rfl (Nat.le_of_ble_eq_true rfl) ?_
  show ab_Z m_Sc_setLevel _ _ _ 0 [_, _, _, _] [] _
  refine ab_go ok_Sc_setLevel 8 rfl ?_
  show ab_Z m_Sc_setLevel _ _ _ 8 [_, _, _, _] [_, _, _] _
  refine ab_cl ok_Sc_setLevel rfl [_, _, _] [] rfl rfl (Nat.le_of_ble_eq_true rfl) (t_SF_put_11 d fm X s t _ (3 * c + f) v (by omega) (by rw [L3, pk_mul, nI_add, Nat.mul_comm])) ?_
  rintro _ _ ⟨rfl, rfl⟩
  show ab_Z m_Sc_setLevel _ _ _ 9 [_, _, _, _] [] _
  refine ab_go ok_Sc_setLevel 6 rfl ?_
  show ab_Z m_Sc_setLevel _ _ _ 15 [_, _, _, _] [] _
  exact ab_rV ok_Sc_setLevel rfl (⟨rfl, rfl⟩)
theorem t_Sc_setPrint {c f : Nat} (v : Int32) (hc : c < 6) (hf : f < 3) : ab_T g_Sc_setPrint (d + 1) (0, 0) [.ref 10, .int (nI c), .int (nI f), .int v] (HA fm X s t) (PV (HA fm X (upSt (ab_up s 11 (15 + 3 * c + f) v)) t)) := by
  refine ab_T_of (M := m_Sc_setPrint) rfl rfl (Nat.le_of_ble_eq_true rfl) ?_
  show ab_Z m_Sc_setPrint _ _ _ 0 [_, _, _, _] [] _
  refine ab_go ok_Sc_setPrint 10 rfl ?_
  show ab_Z m_Sc_setPrint _ _ _ 10 [_, _, _, _] [_, _, _] _
  refine ab_cl ok_Sc_setPrint rfl [_, _, _] [] rfl rfl (Nat.le_of_ble_eq_true rfl) (t_SF_put_11 d fm X s t _ (15 + 3 * c + f) v (by omega) (by rw [L3, L15, pk_mul, nI_add, nI_add, Nat.mul_comm])) ?_
  rintro _ _ ⟨rfl, rfl⟩
  show ab_Z m_Sc_setPrint _ _ _ 11 [_, _, _, _] [] _
  refine ab_go ok_Sc_setPrint 6 rfl ?_
  show ab_Z m_Sc_setPrint _ _ _ 17 [_, _, _, _] [] _
  exact ab_rV ok_Sc_setPrint rfl (⟨rfl, rfl⟩)
theorem t_Sc_setSealer {c : Nat} (v : Int32) (hc : c < 6) : ab_T g_Sc_setSealer (d + 1) (0, 0) [.ref 10, .int (nI c), .int v] (HA fm X s t) (PV (HA fm X (upSt (ab_up s 11 (33 + c) v)) t)) := by
  refine ab_T_of (M := m_Sc_setSealer) rfl rfl (Nat.le_of_ble_eq_true rfl) ?_
  show ab_Z m_Sc_setSealer _ _ _ 0 [_, _, _] [] _
  refine ab_go ok_Sc_setSealer 6 rfl ?_
  show ab_Z m_Sc_setSealer _ _ _ 6 [_, _, _] [_, _, _] _
  refine ab_cl ok_Sc_setSealer rfl [_, _, _] [] rfl rfl (Nat.le_of_ble_eq_true rfl) (t_SF_put_11 d fm X s t _ (33 + c) v (by omega) (by rw [L33, nI_add])) ?_
  rintro _ _ ⟨rfl, rfl⟩
  show ab_Z m_Sc_setSealer _ _ _ 7 [_, _, _] [] _
  refine ab_go ok_Sc_setSealer 6 rfl ?_
  show ab_Z m_Sc_setSealer _ _ _ 13 [_, _, _] [] _
  exact ab_rV ok_Sc_setSealer rfl (⟨rfl, rfl⟩)
theorem t_Sc_setYear (v : Int32) : ab_T g_Sc_setYear d (0, 0) [.ref 10, .int v] (HA fm X s t) (PV (HA fm X (upSt (ab_up s 11 39 v)) t)) := by
  refine ab_T_of (M := m_Sc_setYear) rfl rfl (Nat.le_of_ble_eq_true rfl) ?_
  show ab_Z m_Sc_setYear _ _ _ 0 [_, _] [] _
  refine ab_go ok_Sc_setYear 4 rfl ?_
  show ab_Z m_Sc_setYear _ _ _ 4 [_, _] [_, _, _] _
  refine ab_go ok_Sc_setYear 1 rfl ?_
  show ab_Z m_Sc_setYear _ _ _ 5 [_, _] [] _
  refine ab_go ok_Sc_setYear 6 rfl ?_
  show ab_Z m_Sc_setYear _ _ _ 11 [_, _] [] _
  exact ab_rV ok_Sc_setYear rfl (⟨rfl, rfl⟩)
theorem t_Te_firstOf {c f : Nat} (hc : c < 5) (hf : f < 3) : ab_T g_Te_firstOf (d + 1) (0, 0) [.ref 14, .int (nI c), .int (nI f)] (HA fm X s t) (PI (s 17 (3 * c + f)) (HA fm X s t)) := by
  refine ab_T_of (M := m_Te_firstOf) rfl rfl (Nat.le_of_ble_eq_true rfl) ?_
  show ab_Z m_Te_firstOf _ _ _ 0 [_, _, _] [] _
  refine ab_go ok_Te_firstOf 7 rfl ?_
  show ab_Z m_Te_firstOf _ _ _ 7 [_, _, _] [_, _] _
  refine ab_cl ok_Te_firstOf rfl [_, _] [] rfl rfl (Nat.le_of_ble_eq_true rfl) (t_SF_at_17 d fm X s t _ (3 * c + f) (by omega) (by rw [L3, pk_mul, nI_add, Nat.mul_comm])) ?_
  rintro _ _ ⟨rfl, rfl⟩
  show ab_Z m_Te_firstOf _ _ _ 8 [_, _, _] [_] _
  exact ab_rI ok_Te_firstOf rfl (⟨rfl, rfl⟩)
theorem t_Te_needOf {c f : Nat} (hc : c < 6) (hf : f < 3) : ab_T g_Te_needOf (d + 1) (0, 0) [.ref 14, .int (nI c), .int (nI f)] (HA fm X s t) (PI (s 20 (3 * c + f)) (HA fm X s t)) := by
  refine ab_T_of (M := m_Te_needOf) rfl rfl (Nat.le_of_ble_eq_true rfl) ?_
  show ab_Z m_Te_needOf _ _ _ 0 [_, _, _] [] _
  refine ab_go ok_Te_needOf 7 rfl ?_
  show ab_Z m_Te_needOf _ _ _ 7 [_, _, _] [_, _] _
  refine ab_cl ok_Te_needOf rfl [_, _] [] rfl rfl (Nat.le_of_ble_eq_true rfl) (t_SF_at_20 d fm X s t _ (3 * c + f) (by omega) (by rw [L3, pk_mul, nI_add, Nat.mul_comm])) ?_
  rintro _ _ ⟨rfl, rfl⟩
  show ab_Z m_Te_needOf _ _ _ 8 [_, _, _] [_] _
  exact ab_rI ok_Te_needOf rfl (⟨rfl, rfl⟩)
theorem t_Te_worthOf {c : Nat} (hc : c < 6) : ab_T g_Te_worthOf (d + 1) (0, 0) [.ref 14, .int (nI c)] (HA fm X s t) (PI (s 19 c) (HA fm X s t)) := by
  refine ab_T_of (M := m_Te_worthOf) rfl rfl (Nat.le_of_ble_eq_true rfl) ?_
  show ab_Z m_Te_worthOf _ _ _ 0 [_, _] [] _
  refine ab_go ok_Te_worthOf 3 rfl ?_
  show ab_Z m_Te_worthOf _ _ _ 3 [_, _] [_, _] _
  refine ab_cl ok_Te_worthOf rfl [_, _] [] rfl rfl (Nat.le_of_ble_eq_true rfl) (t_SF_at_19 d fm X s t _ c hc rfl) ?_
  rintro _ _ ⟨rfl, rfl⟩
  show ab_Z m_Te_worthOf _ _ _ 4 [_, _] [_] _
  exact ab_rI ok_Te_worthOf rfl (⟨rfl, rfl⟩)
theorem t_Te_treatyDeed {c f : Nat} (hc : c < 6) (hf : f < 2) : ab_T g_Te_treatyDeed (d + 1) (0, 0) [.ref 14, .int (nI c), .int (nI f)] (HA fm X s t) (PI (s 21 (2 * c + f)) (HA fm X s t)) := by
  refine ab_T_of (M := m_Te_treatyDeed) rfl rfl (Nat.le_of_ble_eq_true rfl) ?_
  show ab_Z m_Te_treatyDeed _ _ _ 0 [_, _, _] [] _
  refine ab_go ok_Te_treatyDeed 7 rfl ?_
  show ab_Z m_Te_treatyDeed _ _ _ 7 [_, _, _] [_, _] _
  refine ab_cl ok_Te_treatyDeed rfl [_, _] [] rfl rfl (Nat.le_of_ble_eq_true rfl) (t_SF_at_21 d fm X s t _ (2 * c + f) (by omega) (by rw [L2, pk_mul, nI_add, Nat.mul_comm])) ?_
  rintro _ _ ⟨rfl, rfl⟩
  show ab_Z m_Te_treatyDeed _ _ _ 8 [_, _, _] [_] _
  exact ab_rI ok_Te_treatyDeed rfl (⟨rfl, rfl⟩)
theorem t_Ha_isClerk (c : Int32) : ab_T g_Ha_isClerk d (0, 0) [.ref 9, .int c] (HA fm X s t) (PI (bI (0 ≤ c.toInt ∧ c.toInt < (s 14 11).toInt)) (HA fm X s t)) := by
  refine ab_T_of (M := m_Ha_isClerk) rfl rfl (Nat.le_of_ble_eq_true rfl) ?_
  show ab_Z m_Ha_isClerk _ _ _ 0 [_, _] [] _
  refine ab_go ok_Ha_isClerk 1 rfl ?_
  show ab_Z m_Ha_isClerk _ _ _ 1 [_, _] [_] _
  refine ab_br ok_Ha_isClerk rfl rfl ?_ ?_
  · intro hc
    show ab_Z m_Ha_isClerk _ _ _ 9 [_, _] [] _
    refine ab_go ok_Ha_isClerk 1 rfl ?_
    show ab_Z m_Ha_isClerk _ _ _ 10 [_, _] [_] _
    exact ab_rZ ok_Ha_isClerk rfl (by decide) (⟨by rw [bI_f (by have := i_neg hc; omega)], rfl⟩)
  · intro hc
    show ab_Z m_Ha_isClerk _ _ _ 2 [_, _] [] _
    refine ab_go ok_Ha_isClerk 4 rfl ?_
    show ab_Z m_Ha_isClerk _ _ _ 6 [_, _] [_, _] _
    refine ab_br ok_Ha_isClerk rfl rfl ?_ ?_
    · intro hd
      show ab_Z m_Ha_isClerk _ _ _ 9 [_, _] [] _
      refine ab_go ok_Ha_isClerk 1 rfl ?_
      show ab_Z m_Ha_isClerk _ _ _ 10 [_, _] [_] _
      exact ab_rZ ok_Ha_isClerk rfl (by decide) (⟨by rw [bI_f (by have := i_le hd; omega)], rfl⟩)
    · intro hd
      show ab_Z m_Ha_isClerk _ _ _ 7 [_, _] [] _
      refine ab_go ok_Ha_isClerk 2 rfl ?_
      show ab_Z m_Ha_isClerk _ _ _ 10 [_, _] [_] _
      exact ab_rZ ok_Ha_isClerk rfl (by decide) (⟨by rw [bI_t (by have := i_nn hc; have := i_nle hd; omega)], rfl⟩)
theorem t_Ha_isDeed (c : Int32) : ab_T g_Ha_isDeed d (0, 0) [.ref 9, .int c] (HA fm X s t) (PI (bI (0 ≤ c.toInt ∧ c.toInt < (s 14 12).toInt)) (HA fm X s t)) := by
  refine ab_T_of (M := m_Ha_isDeed) rfl rfl (Nat.le_of_ble_eq_true rfl) ?_
  show ab_Z m_Ha_isDeed _ _ _ 0 [_, _] [] _
  refine ab_go ok_Ha_isDeed 1 rfl ?_
  show ab_Z m_Ha_isDeed _ _ _ 1 [_, _] [_] _
  refine ab_br ok_Ha_isDeed rfl rfl ?_ ?_
  · intro hc
    show ab_Z m_Ha_isDeed _ _ _ 9 [_, _] [] _
    refine ab_go ok_Ha_isDeed 1 rfl ?_
    show ab_Z m_Ha_isDeed _ _ _ 10 [_, _] [_] _
    exact ab_rZ ok_Ha_isDeed rfl (by decide) (⟨by rw [bI_f (by have := i_neg hc; omega)], rfl⟩)
  · intro hc
    show ab_Z m_Ha_isDeed _ _ _ 2 [_, _] [] _
    refine ab_go ok_Ha_isDeed 4 rfl ?_
    show ab_Z m_Ha_isDeed _ _ _ 6 [_, _] [_, _] _
    refine ab_br ok_Ha_isDeed rfl rfl ?_ ?_
    · intro hd
      show ab_Z m_Ha_isDeed _ _ _ 9 [_, _] [] _
      refine ab_go ok_Ha_isDeed 1 rfl ?_
      show ab_Z m_Ha_isDeed _ _ _ 10 [_, _] [_] _
      exact ab_rZ ok_Ha_isDeed rfl (by decide) (⟨by rw [bI_f (by have := i_le hd; omega)], rfl⟩)
    · intro hd
      show ab_Z m_Ha_isDeed _ _ _ 7 [_, _] [] _
      refine ab_go ok_Ha_isDeed 2 rfl ?_
      show ab_Z m_Ha_isDeed _ _ _ 10 [_, _] [_] _
      exact ab_rZ ok_Ha_isDeed rfl (by decide) (⟨by rw [bI_t (by have := i_nn hc; have := i_nle hd; omega)], rfl⟩)
theorem t_Ha_ageIn {c : Nat} (y : Int32) (hc : c < 5) : ab_T g_Ha_ageIn (d + 1) (0, 0) [.ref 9, .int (nI c), .int y] (HA fm X s t) (PI (s 16 c + y) (HA fm X s t)) := by
  refine ab_T_of (M := m_Ha_ageIn) rfl rfl (Nat.le_of_ble_eq_true rfl) ?_
  show ab_Z m_Ha_ageIn _ _ _ 0 [_, _, _] [] _
  refine ab_go ok_Ha_ageIn 4 rfl ?_
  show ab_Z m_Ha_ageIn _ _ _ 4 [_, _, _] [_, _] _
  refine ab_cl ok_Ha_ageIn rfl [_, _] [] rfl rfl (Nat.le_of_ble_eq_true rfl) (t_SF_at_16 d fm X s t _ c hc rfl) ?_
  rintro _ _ ⟨rfl, rfl⟩
  show ab_Z m_Ha_ageIn _ _ _ 5 [_, _, _] [_] _
  refine ab_go ok_Ha_ageIn 2 rfl ?_
  show ab_Z m_Ha_ageIn _ _ _ 7 [_, _, _] [_] _
  exact ab_rI ok_Ha_ageIn rfl (⟨rfl, rfl⟩)
theorem t_Ha_deedsWith {n : Nat} (x : Int32) (hn : s 14 12 = nI n) (hn6 : n ≤ 6) : ab_T g_Ha_deedsWith (d + 1) (0, 0) [.ref 9, .int x] (HA fm X s t) (PI (nI (bitsN (fun k => decide (s 11 (33 + k) = x)) n)) (HA fm X s t)) := by
  refine ab_T_of (M := m_Ha_deedsWith) rfl rfl (Nat.le_of_ble_eq_true rfl) ?_
  show ab_Z m_Ha_deedsWith _ _ _ 0 [_, _, _, _] [] _
  refine ab_go ok_Ha_deedsWith 4 rfl ?_
  show ab_Z m_Ha_deedsWith _ _ _ 4 [_, _, _, _] [] _
  refine lp_dn n (fun k => ab_Z m_Ha_deedsWith (d + 1) (0, 0) _ 4 [some (.ref 9), some (.int x), some (.int (nI (bitsN (fun k => decide (s 11 (33 + k) = x)) k))), some (.int (nI k))] [] (HA fm X s t)) ?_ ?_
  · refine ab_go ok_Ha_deedsWith 4 rfl ?_
    show ab_Z m_Ha_deedsWith _ _ _ 8 [_, _, _, _] [_, _] _
    refine ab_br ok_Ha_deedsWith rfl rfl ?_ ?_
    · intro hc
      show ab_Z m_Ha_deedsWith _ _ _ 23 [_, _, _, _] [] _
      refine ab_go ok_Ha_deedsWith 1 rfl ?_
      show ab_Z m_Ha_deedsWith _ _ _ 24 [_, _, _, _] [_] _
      exact ab_rI ok_Ha_deedsWith rfl (⟨rfl, rfl⟩)
    · intro hc
      show ab_Z m_Ha_deedsWith _ _ _ 9 [_, _, _, _] [] _
      rw [hn] at hc
      exact absurd (lp_out n) hc
  · intro k hk ih
    refine ab_go ok_Ha_deedsWith 4 rfl ?_
    show ab_Z m_Ha_deedsWith _ _ _ 8 [_, _, _, _] [_, _] _
    refine ab_br ok_Ha_deedsWith rfl rfl ?_ ?_
    · intro hc
      show ab_Z m_Ha_deedsWith _ _ _ 23 [_, _, _, _] [] _
      rw [hn] at hc
      exact absurd hc (lp_in (by omega) hk)
    · intro hc
      show ab_Z m_Ha_deedsWith _ _ _ 9 [_, _, _, _] [] _
      refine ab_go ok_Ha_deedsWith 3 rfl ?_
      show ab_Z m_Ha_deedsWith _ _ _ 12 [_, _, _, _] [_, _] _
      refine ab_cl ok_Ha_deedsWith rfl [_, _] [] rfl ⟨_, _, rfl, rfl, Or.inl ⟨_, _, rfl, rfl⟩⟩ (Nat.le_of_ble_eq_true rfl) (t_Sc_sealerOf d fm X s t (show k < 6 by omega)) ?_
      rintro _ _ ⟨rfl, rfl⟩
      show ab_Z m_Ha_deedsWith _ _ _ 13 [_, _, _, _] [_] _
      refine ab_go ok_Ha_deedsWith 1 rfl ?_
      show ab_Z m_Ha_deedsWith _ _ _ 14 [_, _, _, _] [_, _] _
      refine ab_br ok_Ha_deedsWith rfl rfl ?_ ?_
      · intro hx
        show ab_Z m_Ha_deedsWith _ _ _ 15 [_, _, _, _] [] _
        refine ab_go ok_Ha_deedsWith 8 rfl ?_
        show ab_Z m_Ha_deedsWith _ _ _ 4 [_, _, _, _] [] _
        rw [bitsN_or _ (by omega) (decide_eq_true hx), ← nI_succ]
        exact ih
      · intro hx
        show ab_Z m_Ha_deedsWith _ _ _ 21 [_, _, _, _] [] _
        refine ab_go ok_Ha_deedsWith 2 rfl ?_
        show ab_Z m_Ha_deedsWith _ _ _ 4 [_, _, _, _] [] _
        rw [bitsN_no _ (decide_eq_false hx), nI_succ] at ih
        exact ih
theorem t_Ha_deedsOf {n : Nat} (x : Int32) (hn : s 14 12 = nI n) (hn6 : n ≤ 6) : ab_T g_Ha_deedsOf (d + 2) (0, 0) [.ref 9, .int x] (HA fm X s t) (PI (nI (bitsN (fun k => decide (s 11 (33 + k) = x)) n)) (HA fm X s t)) := by
  refine ab_T_of (M := m_Ha_deedsOf) rfl rfl (Nat.le_of_ble_eq_true rfl) ?_
  show ab_Z m_Ha_deedsOf _ _ _ 0 [_, _] [] _
  refine ab_go ok_Ha_deedsOf 2 rfl ?_
  show ab_Z m_Ha_deedsOf _ _ _ 2 [_, _] [_, _] _
  refine ab_cl ok_Ha_deedsOf rfl [_, _] [] rfl ⟨_, _, rfl, rfl, Or.inl ⟨_, _, rfl, rfl⟩⟩ (Nat.le_of_ble_eq_true rfl) (t_Ha_deedsWith d fm X s t x hn hn6) ?_
  rintro _ _ ⟨rfl, rfl⟩
  show ab_Z m_Ha_deedsOf _ _ _ 3 [_, _] [_] _
  exact ab_rI ok_Ha_deedsOf rfl (⟨rfl, rfl⟩)
theorem t_Ha_sealedBy {n : Nat} (x : Int32) (hn : s 14 12 = nI n) (hn6 : n ≤ 6) : ab_T g_Ha_sealedBy (d + 2) (0, 0) [.ref 9, .int x] (HA fm X s t) (PI (bcF (nI (bitsN (fun k => decide (s 11 (33 + k) = x)) n))) (HA fm X s t)) := by
  refine ab_T_of (M := m_Ha_sealedBy) rfl rfl (Nat.le_of_ble_eq_true rfl) ?_
  show ab_Z m_Ha_sealedBy _ _ _ 0 [_, _] [] _
  refine ab_go ok_Ha_sealedBy 2 rfl ?_
  show ab_Z m_Ha_sealedBy _ _ _ 2 [_, _] [_, _] _
  refine ab_cl ok_Ha_sealedBy rfl [_, _] [] rfl ⟨_, _, rfl, rfl, Or.inl ⟨_, _, rfl, rfl⟩⟩ (Nat.le_of_ble_eq_true rfl) (t_Ha_deedsWith d fm X s t x hn hn6) ?_
  rintro _ _ ⟨rfl, rfl⟩
  show ab_Z m_Ha_sealedBy _ _ _ 3 [_, _] [_] _
  refine ab_cl ok_Ha_sealedBy rfl [_] [] rfl rfl (Nat.le_of_ble_eq_true rfl) (t_JI_bitCount (d + 1) _ _) ?_
  rintro _ _ ⟨rfl, rfl⟩
  show ab_Z m_Ha_sealedBy _ _ _ 4 [_, _] [_] _
  exact ab_rI ok_Ha_sealedBy rfl (⟨rfl, rfl⟩)
theorem t_Ha_isOpen {n : Nat} (c : Int32) (hn : s 14 12 = nI n) (hn6 : n ≤ 6) : ab_T g_Ha_isOpen (d + 1) (0, 0) [.ref 9, .int c] (HA fm X s t) (PI (bI ((0 ≤ c.toInt ∧ c.toInt < n) ∧ s 11 (33 + c.toNatClampNeg) = -2)) (HA fm X s t)) := by
  refine ab_T_of (M := m_Ha_isOpen) rfl rfl (Nat.le_of_ble_eq_true rfl) ?_
  show ab_Z m_Ha_isOpen _ _ _ 0 [_, _] [] _
  refine ab_go ok_Ha_isOpen 2 rfl ?_
  show ab_Z m_Ha_isOpen _ _ _ 2 [_, _] [_, _] _
  refine ab_cl ok_Ha_isOpen rfl [_, _] [] rfl ⟨_, _, rfl, rfl, Or.inl ⟨_, _, rfl, rfl⟩⟩ (Nat.le_of_ble_eq_true rfl) (t_Ha_isDeed d fm X s t c) ?_
  rintro _ _ ⟨rfl, rfl⟩
  show ab_Z m_Ha_isOpen _ _ _ 3 [_, _] [_] _
  refine ab_br ok_Ha_isOpen rfl rfl ?_ ?_
  · intro hc
    show ab_Z m_Ha_isOpen _ _ _ 12 [_, _] [] _
    have hc := bI_0.mp hc
    rw [hn, nI_t (by omega)] at hc
    refine ab_go ok_Ha_isOpen 1 rfl ?_
    show ab_Z m_Ha_isOpen _ _ _ 13 [_, _] [_] _
    exact ab_rZ ok_Ha_isOpen rfl (by decide) (⟨by rw [bI_f (fun z => hc z.1)], rfl⟩)
  · intro hc
    show ab_Z m_Ha_isOpen _ _ _ 4 [_, _] [] _
    have hc := Decidable.of_not_not (fun z => hc (bI_0.mpr z))
    rw [hn, nI_t (by omega)] at hc
    have ec : c = nI c.toNatClampNeg := by
      obtain ⟨j, h1, h2⟩ := nI_of (x := c) (fun z => absurd (i_neg z) (by omega))
      rw [h2, nI_c h1]
    have hlt : c.toNatClampNeg < 6 := by
      have := nI_t (n := c.toNatClampNeg) (by unfold Int32.toNatClampNeg; omega)
      rw [← ec] at this
      omega
    rw [ec]
    refine ab_go ok_Ha_isOpen 3 rfl ?_
    show ab_Z m_Ha_isOpen _ _ _ 7 [_, _] [_, _] _
    refine ab_cl ok_Ha_isOpen rfl [_, _] [] rfl ⟨_, _, rfl, rfl, Or.inl ⟨_, _, rfl, rfl⟩⟩ (Nat.le_of_ble_eq_true rfl) (t_Sc_sealerOf d fm X s t hlt) ?_
    rintro _ _ ⟨rfl, rfl⟩
    show ab_Z m_Ha_isOpen _ _ _ 8 [_, _] [_] _
    refine ab_go ok_Ha_isOpen 1 rfl ?_
    show ab_Z m_Ha_isOpen _ _ _ 9 [_, _] [_, _] _
    refine ab_br ok_Ha_isOpen rfl rfl ?_ ?_
    · intro hx
      show ab_Z m_Ha_isOpen _ _ _ 10 [_, _] [] _
      refine ab_go ok_Ha_isOpen 2 rfl ?_
      show ab_Z m_Ha_isOpen _ _ _ 13 [_, _] [_] _
      exact ab_rZ ok_Ha_isOpen rfl (by decide) (⟨by rw [bI_t ⟨by rw [← ec]; exact hc, by rw [nI_c (by omega)]; exact hx⟩], rfl⟩)
    · intro hx
      show ab_Z m_Ha_isOpen _ _ _ 12 [_, _] [] _
      refine ab_go ok_Ha_isOpen 1 rfl ?_
      show ab_Z m_Ha_isOpen _ _ _ 13 [_, _] [_] _
      exact ab_rZ ok_Ha_isOpen rfl (by decide) (⟨by rw [bI_f (fun z => hx (by have := z.2; rw [nI_c (by omega)] at this; exact this))], rfl⟩)
end

