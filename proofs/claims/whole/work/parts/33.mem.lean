/-! memory, what was told, the tape -/
def hbF (x i : Int32) : Bool := decide (ushr x i &&& 1 = 1)
theorem i_nat {x : Int32} (h : 0 ≤ x.toInt) : x = nI x.toNatClampNeg := by
  apply Int32.toInt_inj.mp
  have h1 := (ab_nn h).2
  have h2 := x.toInt_lt
  rw [nI_t (by omega)]
  exact h1
theorem L40 : (40 : Int32) = nI 40 := rfl
section
variable (d : Nat) (fm : Value) (X : Nat × (Nat → Int32)) (s : Nat → Nat → Int32) (t : Nat → Nat → Int64)
theorem t_SF_hasBit (h : ab_H) (x i : Int32) : ab_T g_SF_hasBit d (0, 0) [.int x, .int i] h (PI (bB (hbF x i)) h) := by
  refine ab_T_of (M := m_SF_hasBit) rfl rfl (Nat.le_of_ble_eq_true rfl) ?_
  show ab_Z m_SF_hasBit _ _ _ 0 [_, _] [] _
  refine ab_go ok_SF_hasBit 6 rfl ?_
  show ab_Z m_SF_hasBit _ _ _ 6 [_, _] [_, _] _
  refine ab_br ok_SF_hasBit rfl rfl ?_ ?_
  · intro h1
    show ab_Z m_SF_hasBit _ _ _ 7 [_, _] [] _
    refine ab_go ok_SF_hasBit 2 rfl ?_
    show ab_Z m_SF_hasBit _ _ _ 10 [_, _] [_] _
    exact ab_rZ ok_SF_hasBit rfl (by decide) (⟨by rw [show hbF x i = true from decide_eq_true h1]; rfl, rfl⟩)
  · intro h1
    show ab_Z m_SF_hasBit _ _ _ 9 [_, _] [] _
    refine ab_go ok_SF_hasBit 1 rfl ?_
    show ab_Z m_SF_hasBit _ _ _ 10 [_, _] [_] _
    exact ab_rZ ok_SF_hasBit rfl (by decide) (⟨by rw [show hbF x i = false from decide_eq_false h1]; rfl, rfl⟩)
theorem t_SF_countOrBits (h : ab_H) (x i : Int32) : ab_T g_SF_countOrBits (d + 1) (0, 0) [.int x, .int i] h (PI (if i = 0 then bcF x else x) h) := by
  refine ab_T_of (M := m_SF_countOrBits) rfl rfl (Nat.le_of_ble_eq_true rfl) ?_
  show ab_Z m_SF_countOrBits _ _ _ 0 [_, _] [] _
  refine ab_go ok_SF_countOrBits 1 rfl ?_
  show ab_Z m_SF_countOrBits _ _ _ 1 [_, _] [_] _
  refine ab_br ok_SF_countOrBits rfl rfl ?_ ?_
  · intro h1
    show ab_Z m_SF_countOrBits _ _ _ 2 [_, _] [] _
    refine ab_go ok_SF_countOrBits 1 rfl ?_
    show ab_Z m_SF_countOrBits _ _ _ 3 [_, _] [_] _
    refine ab_cl ok_SF_countOrBits rfl [_] [] rfl rfl (Nat.le_of_ble_eq_true rfl) (t_JI_bitCount d h x) ?_
    rintro _ _ ⟨rfl, rfl⟩
    show ab_Z m_SF_countOrBits _ _ _ 4 [_, _] [_] _
    refine ab_go ok_SF_countOrBits 1 rfl ?_
    show ab_Z m_SF_countOrBits _ _ _ 6 [_, _] [_] _
    exact ab_rI ok_SF_countOrBits rfl (⟨by rw [if_pos h1], rfl⟩)
  · intro h1
    show ab_Z m_SF_countOrBits _ _ _ 5 [_, _] [] _
    refine ab_go ok_SF_countOrBits 1 rfl ?_
    show ab_Z m_SF_countOrBits _ _ _ 6 [_, _] [_] _
    exact ab_rI ok_SF_countOrBits rfl (⟨by rw [if_neg h1], rfl⟩)
theorem t_SF_laterOf (h : ab_H) (x y : Int32) : ab_T g_SF_laterOf (d + 1) (0, 0) [.int x, .int y] h (PI (if x = -2 ∨ y = -2 then -2 else if x < y then y else x) h) := by
  refine ab_T_of (M := m_SF_laterOf) rfl rfl (Nat.le_of_ble_eq_true rfl) ?_
  show ab_Z m_SF_laterOf _ _ _ 0 [_, _] [] _
  refine ab_go ok_SF_laterOf 2 rfl ?_
  show ab_Z m_SF_laterOf _ _ _ 2 [_, _] [_, _] _
  refine ab_br ok_SF_laterOf rfl rfl ?_ ?_
  · intro h1
    show ab_Z m_SF_laterOf _ _ _ 6 [_, _] [] _
    refine ab_go ok_SF_laterOf 2 rfl ?_
    show ab_Z m_SF_laterOf _ _ _ 11 [_, _] [_] _
    exact ab_rI ok_SF_laterOf rfl (⟨by rw [if_pos (Or.inl h1)], rfl⟩)
  · intro h1
    show ab_Z m_SF_laterOf _ _ _ 3 [_, _] [] _
    refine ab_go ok_SF_laterOf 2 rfl ?_
    show ab_Z m_SF_laterOf _ _ _ 5 [_, _] [_, _] _
    refine ab_br ok_SF_laterOf rfl rfl ?_ ?_
    · intro h2
      show ab_Z m_SF_laterOf _ _ _ 6 [_, _] [] _
      refine ab_go ok_SF_laterOf 2 rfl ?_
      show ab_Z m_SF_laterOf _ _ _ 11 [_, _] [_] _
      exact ab_rI ok_SF_laterOf rfl (⟨by rw [if_pos (Or.inr h2)], rfl⟩)
    · intro h2
      show ab_Z m_SF_laterOf _ _ _ 8 [_, _] [] _
      refine ab_go ok_SF_laterOf 2 rfl ?_
      show ab_Z m_SF_laterOf _ _ _ 10 [_, _] [_, _] _
      refine ab_cl ok_SF_laterOf rfl [_, _] [] rfl rfl (Nat.le_of_ble_eq_true rfl) (t_JM_max d h x y) ?_
      rintro _ _ ⟨rfl, rfl⟩
      show ab_Z m_SF_laterOf _ _ _ 11 [_, _] [_] _
      exact ab_rI ok_SF_laterOf rfl (⟨by rw [if_neg (c := x = -2 ∨ y = -2) (fun z => z.elim h1 h2)], rfl⟩)
theorem t_Sc_copyTo_39 (x : Int32) {w : Nat} (hx : x = nI w) (hw : w < 40) : ab_T g_Sc_copyTo d (0, 0) [.ref 10, .ref 39, .int x] (HA fm X s t) (PV (HA fm X (ab_ro s 39 (va_cpy (s 11) (s 39) 0 (40 * w) 40)) t)) := by
  subst hx
  refine ab_T_of (M := m_Sc_copyTo) rfl rfl (Nat.le_of_ble_eq_true rfl) ?_
  show ab_Z m_Sc_copyTo _ _ _ 0 [_, _, _] [] _
  refine ab_go ok_Sc_copyTo 1 rfl ?_
  show ab_Z m_Sc_copyTo _ _ _ 1 [_, _, _] [_] _
  refine ab_br ok_Sc_copyTo rfl rfl ?_ ?_
  · intro h1
    show ab_Z m_Sc_copyTo _ _ _ 17 [_, _, _] [] _
    exact absurd h1 (nI_l0 (by omega))
  · intro h1
    show ab_Z m_Sc_copyTo _ _ _ 2 [_, _, _] [] _
    refine ab_go ok_Sc_copyTo 4 rfl ?_
    show ab_Z m_Sc_copyTo _ _ _ 6 [_, _, _] [_, _, _] _
    refine ab_go ok_Sc_copyTo 1 rfl ?_
    show ab_Z m_Sc_copyTo _ _ _ 7 [_, _, _] [_, _] _
    refine ab_br ok_Sc_copyTo rfl rfl ?_ ?_
    · intro h2
      show ab_Z m_Sc_copyTo _ _ _ 17 [_, _, _] [] _
      exact absurd h2 (lp_in (N := 40) (by decide) hw)
    · intro h2
      show ab_Z m_Sc_copyTo _ _ _ 8 [_, _, _] [] _
      refine ab_go ok_Sc_copyTo 8 rfl ?_
      show ab_Z m_Sc_copyTo _ _ _ 16 [_, _, _] [_, _, _, _, _] _
      rw [L40, pk_mul]
      refine ab_ck ok_Sc_copyTo rfl rfl (by rw [nI_t (by omega), nI_t (by omega)]; refine ⟨by decide, by omega, by omega, ?_, by omega⟩; show (0 : Int) + _ ≤ _; omega) ?_
      show ab_Z m_Sc_copyTo _ _ _ 17 [_, _, _] [] _
      rw [nI_c (by omega), nI_c (by omega), Nat.mul_comm w 40]
      exact ab_rV ok_Sc_copyTo rfl (⟨rfl, rfl⟩)
theorem t_Sc_copyTo_40 (x : Int32) {w : Nat} (hx : x = nI w) (hw : w < 3) : ab_T g_Sc_copyTo d (0, 0) [.ref 10, .ref 40, .int x] (HA fm X s t) (PV (HA fm X (ab_ro s 40 (va_cpy (s 11) (s 40) 0 (40 * w) 40)) t)) := by
  subst hx
  refine ab_T_of (M := m_Sc_copyTo) rfl rfl (Nat.le_of_ble_eq_true rfl) ?_
  show ab_Z m_Sc_copyTo _ _ _ 0 [_, _, _] [] _
  refine ab_go ok_Sc_copyTo 1 rfl ?_
  show ab_Z m_Sc_copyTo _ _ _ 1 [_, _, _] [_] _
  refine ab_br ok_Sc_copyTo rfl rfl ?_ ?_
  · intro h1
    show ab_Z m_Sc_copyTo _ _ _ 17 [_, _, _] [] _
    exact absurd h1 (nI_l0 (by omega))
  · intro h1
    show ab_Z m_Sc_copyTo _ _ _ 2 [_, _, _] [] _
    refine ab_go ok_Sc_copyTo 4 rfl ?_
    show ab_Z m_Sc_copyTo _ _ _ 6 [_, _, _] [_, _, _] _
    refine ab_go ok_Sc_copyTo 1 rfl ?_
    show ab_Z m_Sc_copyTo _ _ _ 7 [_, _, _] [_, _] _
    refine ab_br ok_Sc_copyTo rfl rfl ?_ ?_
    · intro h2
      show ab_Z m_Sc_copyTo _ _ _ 17 [_, _, _] [] _
      exact absurd h2 (lp_in (N := 3) (by decide) hw)
    · intro h2
      show ab_Z m_Sc_copyTo _ _ _ 8 [_, _, _] [] _
      refine ab_go ok_Sc_copyTo 8 rfl ?_
      show ab_Z m_Sc_copyTo _ _ _ 16 [_, _, _] [_, _, _, _, _] _
      rw [L40, pk_mul]
      refine ab_ck ok_Sc_copyTo rfl rfl (by rw [nI_t (by omega), nI_t (by omega)]; refine ⟨by decide, by omega, by omega, ?_, by omega⟩; show (0 : Int) + _ ≤ _; omega) ?_
      show ab_Z m_Sc_copyTo _ _ _ 17 [_, _, _] [] _
      rw [nI_c (by omega), nI_c (by omega), Nat.mul_comm w 40]
      exact ab_rV ok_Sc_copyTo rfl (⟨rfl, rfl⟩)
theorem t_Sc_copyFrom_39 (x : Int32) {w : Nat} (hx : x = nI w) (hw : w < 40) : ab_T g_Sc_copyFrom d (0, 0) [.ref 10, .ref 39, .int x] (HA fm X s t) (PV (HA fm X (upSt (ab_ro s 11 (va_cpy (s 39) (s 11) (40 * w) 0 40))) t)) := by
  subst hx
  refine ab_T_of (M := m_Sc_copyFrom) rfl rfl (Nat.le_of_ble_eq_true rfl) ?_
  show ab_Z m_Sc_copyFrom _ _ _ 0 [_, _, _] [] _
  refine ab_go ok_Sc_copyFrom 1 rfl ?_
  show ab_Z m_Sc_copyFrom _ _ _ 1 [_, _, _] [_] _
  refine ab_br ok_Sc_copyFrom rfl rfl ?_ ?_
  · intro h1
    show ab_Z m_Sc_copyFrom _ _ _ 23 [_, _, _] [] _
    exact absurd h1 (nI_l0 (by omega))
  · intro h1
    show ab_Z m_Sc_copyFrom _ _ _ 2 [_, _, _] [] _
    refine ab_go ok_Sc_copyFrom 4 rfl ?_
    show ab_Z m_Sc_copyFrom _ _ _ 6 [_, _, _] [_, _, _] _
    refine ab_go ok_Sc_copyFrom 1 rfl ?_
    show ab_Z m_Sc_copyFrom _ _ _ 7 [_, _, _] [_, _] _
    refine ab_br ok_Sc_copyFrom rfl rfl ?_ ?_
    · intro h2
      show ab_Z m_Sc_copyFrom _ _ _ 23 [_, _, _] [] _
      exact absurd h2 (lp_in (N := 40) (by decide) hw)
    · intro h2
      show ab_Z m_Sc_copyFrom _ _ _ 8 [_, _, _] [] _
      refine ab_go ok_Sc_copyFrom 8 rfl ?_
      show ab_Z m_Sc_copyFrom _ _ _ 16 [_, _, _] [_, _, _, _, _] _
      rw [L40, pk_mul]
      refine ab_ck ok_Sc_copyFrom rfl rfl (by rw [nI_t (by omega), nI_t (by omega)]; refine ⟨by omega, by decide, by omega, by omega, ?_⟩; show (0 : Int) + _ ≤ _; omega) ?_
      show ab_Z m_Sc_copyFrom _ _ _ 17 [_, _, _] [] _
      rw [nI_c (by omega), nI_c (by omega), Nat.mul_comm w 40]
      refine ab_go ok_Sc_copyFrom 6 rfl ?_
      show ab_Z m_Sc_copyFrom _ _ _ 23 [_, _, _] [] _
      exact ab_rV ok_Sc_copyFrom rfl (⟨rfl, rfl⟩)
theorem t_Sc_copyFrom_40 (x : Int32) {w : Nat} (hx : x = nI w) (hw : w < 3) : ab_T g_Sc_copyFrom d (0, 0) [.ref 10, .ref 40, .int x] (HA fm X s t) (PV (HA fm X (upSt (ab_ro s 11 (va_cpy (s 40) (s 11) (40 * w) 0 40))) t)) := by
  subst hx
  refine ab_T_of (M := m_Sc_copyFrom) rfl rfl (Nat.le_of_ble_eq_true rfl) ?_
  show ab_Z m_Sc_copyFrom _ _ _ 0 [_, _, _] [] _
  refine ab_go ok_Sc_copyFrom 1 rfl ?_
  show ab_Z m_Sc_copyFrom _ _ _ 1 [_, _, _] [_] _
  refine ab_br ok_Sc_copyFrom rfl rfl ?_ ?_
  · intro h1
    show ab_Z m_Sc_copyFrom _ _ _ 23 [_, _, _] [] _
    exact absurd h1 (nI_l0 (by omega))
  · intro h1
    show ab_Z m_Sc_copyFrom _ _ _ 2 [_, _, _] [] _
    refine ab_go ok_Sc_copyFrom 4 rfl ?_
    show ab_Z m_Sc_copyFrom _ _ _ 6 [_, _, _] [_, _, _] _
    refine ab_go ok_Sc_copyFrom 1 rfl ?_
    show ab_Z m_Sc_copyFrom _ _ _ 7 [_, _, _] [_, _] _
    refine ab_br ok_Sc_copyFrom rfl rfl ?_ ?_
    · intro h2
      show ab_Z m_Sc_copyFrom _ _ _ 23 [_, _, _] [] _
      exact absurd h2 (lp_in (N := 3) (by decide) hw)
    · intro h2
      show ab_Z m_Sc_copyFrom _ _ _ 8 [_, _, _] [] _
      refine ab_go ok_Sc_copyFrom 8 rfl ?_
      show ab_Z m_Sc_copyFrom _ _ _ 16 [_, _, _] [_, _, _, _, _] _
      rw [L40, pk_mul]
      refine ab_ck ok_Sc_copyFrom rfl rfl (by rw [nI_t (by omega), nI_t (by omega)]; refine ⟨by omega, by decide, by omega, by omega, ?_⟩; show (0 : Int) + _ ≤ _; omega) ?_
      show ab_Z m_Sc_copyFrom _ _ _ 17 [_, _, _] [] _
      rw [nI_c (by omega), nI_c (by omega), Nat.mul_comm w 40]
      refine ab_go ok_Sc_copyFrom 6 rfl ?_
      show ab_Z m_Sc_copyFrom _ _ _ 23 [_, _, _] [] _
      exact ab_rV ok_Sc_copyFrom rfl (⟨rfl, rfl⟩)
def memP (s : Nat → Nat → Int32) (w m : Nat) : Nat → Nat → Int32 := ab_up (ab_up (ab_ro s 39 (va_cpy (s 11) (s 39) 0 (40 * w) 40)) 38 3 (nI (if w + 1 < 40 then w + 1 else 0))) 38 4 (nI (if m < 40 then m + 1 else 40))
theorem t_Me_remember {w m : Nat} (hw : s 38 3 = nI w) (hw4 : w < 40) (hm : s 38 4 = nI m) (hm4 : m ≤ 40) : ab_T g_Me_remember (d + 1) (0, 0) [.ref 38, .ref 10] (HA fm X s t) (PV (HA fm X (memP s w m) t)) := by
  have hmin : (if (40 : Int32) < nI m + 1 then (40 : Int32) else nI m + 1) = nI (if m < 40 then m + 1 else 40) := by
    rw [← nI_succ]
    by_cases h : m < 40
    · rw [if_pos h, if_neg (by intro z; have := i_ltK (z := 40) rfl z; rw [nI_t (by omega)] at this; omega)]
    · rw [if_neg h, if_pos (Int32.lt_iff_toInt_lt.mpr (by rw [nI_t (by omega)]; show (40 : Int) < _; omega))]
      rfl
  refine ab_T_of (M := m_Me_remember) rfl rfl (Nat.le_of_ble_eq_true rfl) ?_
  show ab_Z m_Me_remember _ _ _ 0 [_, _] [] _
  refine ab_go ok_Me_remember 5 rfl ?_
  show ab_Z m_Me_remember _ _ _ 5 [_, _] [_, _, _] _
  refine ab_cl ok_Me_remember rfl [_, _, _] [] rfl ⟨_, _, rfl, rfl, Or.inl ⟨_, _, rfl, rfl⟩⟩ (Nat.le_of_ble_eq_true rfl) (t_Sc_copyTo_39 d fm X s t _ hw hw4) ?_
  rintro _ _ ⟨rfl, rfl⟩
  show ab_Z m_Me_remember _ _ _ 6 [_, _] [] _
  refine ab_go ok_Me_remember 6 rfl ?_
  show ab_Z m_Me_remember _ _ _ 12 [_, _] [_, _, _] _
  rw [ab_ro_o (by decide), hw]
  refine ab_br ok_Me_remember rfl rfl ?_ ?_
  · intro h1
    show ab_Z m_Me_remember _ _ _ 18 [_, _] [_] _
    refine ab_go ok_Me_remember 8 rfl ?_
    show ab_Z m_Me_remember _ _ _ 26 [_, _] [_, _, _] _
    rw [ab_up_n (by decide), ab_ro_o (by decide), hm]
    refine ab_cl ok_Me_remember rfl [_, _] [_] rfl rfl (Nat.le_of_ble_eq_true rfl) (t_JM_min d _ _ _) ?_
    rintro _ _ ⟨rfl, rfl⟩
    show ab_Z m_Me_remember _ _ _ 27 [_, _] [_, _] _
    refine ab_go ok_Me_remember 1 rfl ?_
    show ab_Z m_Me_remember _ _ _ 28 [_, _] [] _
    rw [hmin]
    have h2 : ¬ w + 1 < 40 := by
      rw [← nI_succ] at h1
      have := i_leK (z := 40) rfl h1
      rw [nI_t (by omega)] at this
      omega
    exact ab_rV ok_Me_remember rfl (⟨rfl, by unfold memP; rw [if_neg h2]; rfl⟩)
  · intro h1
    show ab_Z m_Me_remember _ _ _ 13 [_, _] [_] _
    refine ab_go ok_Me_remember 12 rfl ?_
    show ab_Z m_Me_remember _ _ _ 26 [_, _] [_, _, _] _
    rw [ab_up_n (by decide), ab_ro_o (by decide), hm, hw]
    refine ab_cl ok_Me_remember rfl [_, _] [_] rfl rfl (Nat.le_of_ble_eq_true rfl) (t_JM_min d _ _ _) ?_
    rintro _ _ ⟨rfl, rfl⟩
    show ab_Z m_Me_remember _ _ _ 27 [_, _] [_, _] _
    refine ab_go ok_Me_remember 1 rfl ?_
    show ab_Z m_Me_remember _ _ _ 28 [_, _] [] _
    rw [hmin, ← nI_succ w]
    have h2 : w + 1 < 40 := by
      rw [← nI_succ] at h1
      have := i_nleK (z := 40) rfl h1
      rw [nI_t (by omega)] at this
      omega
    exact ab_rV ok_Me_remember rfl (⟨rfl, by unfold memP; rw [if_pos h2]⟩)
def memB (s : Nat → Nat → Int32) (w m : Nat) : Nat → Nat → Int32 := upSt (ab_ro (ab_up (ab_up s 38 3 (nI (if 0 < w then w - 1 else 39))) 38 4 (nI (m - 1))) 11 (va_cpy (s 39) (s 11) (40 * (if 0 < w then w - 1 else 39)) 0 40))
theorem t_Me_recall {w m : Nat} (hw : s 38 3 = nI w) (hw4 : w < 40) (hm : s 38 4 = nI m) (hm4 : m ≤ 40) : ab_T g_Me_recall (d + 1) (0, 0) [.ref 38, .ref 10] (HA fm X s t) (fun v h => v = some (.int (bB (decide (0 < m)))) ∧ h = HA fm X (if 0 < m then memB s w m else s) t) := by
  refine ab_T_of (M := m_Me_recall) rfl rfl (Nat.le_of_ble_eq_true rfl) ?_
  show ab_Z m_Me_recall _ _ _ 0 [_, _] [] _
  refine ab_go ok_Me_recall 2 rfl ?_
  show ab_Z m_Me_recall _ _ _ 2 [_, _] [_] _
  rw [hm]
  refine ab_br ok_Me_recall rfl rfl ?_ ?_
  · intro h1
    show ab_Z m_Me_recall _ _ _ 3 [_, _] [] _
    refine ab_go ok_Me_recall 1 rfl ?_
    show ab_Z m_Me_recall _ _ _ 4 [_, _] [_] _
    have h2 : m = 0 := by
      have h3 := congrArg Int32.toInt h1
      rw [nI_t (by omega)] at h3
      exact Int.ofNat.inj h3
    subst h2
    exact ab_rZ ok_Me_recall rfl (by decide) (⟨rfl, rfl⟩)
  · intro h1
    show ab_Z m_Me_recall _ _ _ 5 [_, _] [] _
    have h2 : 0 < m := by
      rcases Nat.eq_zero_or_pos m with h | h
      · subst h; exact absurd rfl h1
      · exact h
    have hm1 : nI m - 1 = nI (m - 1) := by
      rw [show nI m = nI (m - 1) + 1 from by rw [← nI_succ, Nat.sub_add_cancel h2]]
      exact Int32.add_sub_cancel ..
    refine ab_go ok_Me_recall 3 rfl ?_
    show ab_Z m_Me_recall _ _ _ 8 [_, _] [_, _] _
    rw [hw]
    refine ab_br ok_Me_recall rfl rfl ?_ ?_
    · intro h3
      show ab_Z m_Me_recall _ _ _ 14 [_, _] [_] _
      refine ab_go ok_Me_recall 13 rfl ?_
      show ab_Z m_Me_recall _ _ _ 27 [_, _] [_, _, _] _
      rw [show ab_up s 38 3 39 38 4 = s 38 4 from ab_up_n (by decide), hm, hm1]
      have h4 : ¬ 0 < w := by
        have := i_leR (z := 0) rfl h3
        rw [nI_t (by omega)] at this
        omega
      refine ab_cl ok_Me_recall rfl [_, _, _] [] rfl ⟨_, _, rfl, rfl, Or.inl ⟨_, _, rfl, rfl⟩⟩ (Nat.le_of_ble_eq_true rfl) (t_Sc_copyFrom_39 d fm X _ t _ (w := 39) rfl (by decide)) ?_
      rintro _ _ ⟨rfl, rfl⟩
      show ab_Z m_Me_recall _ _ _ 28 [_, _] [] _
      refine ab_go ok_Me_recall 1 rfl ?_
      show ab_Z m_Me_recall _ _ _ 29 [_, _] [_] _
      exact ab_rZ ok_Me_recall rfl (by decide) (⟨by rw [decide_eq_true h2]; rfl, by rw [if_pos h2]; unfold memB; rw [if_neg h4]; rfl⟩)
    · intro h3
      show ab_Z m_Me_recall _ _ _ 9 [_, _] [_] _
      have h4 : 0 < w := by
        have := i_nleR (z := 0) rfl h3
        rw [nI_t (by omega)] at this
        omega
      have hw1 : nI w - 1 = nI (w - 1) := by
        rw [show nI w = nI (w - 1) + 1 from by rw [← nI_succ, Nat.sub_add_cancel h4]]
        exact Int32.add_sub_cancel ..
      refine ab_go ok_Me_recall 17 rfl ?_
      show ab_Z m_Me_recall _ _ _ 27 [_, _] [_, _, _] _
      rw [show ab_up s 38 3 (s 38 3 - 1) 38 4 = s 38 4 from ab_up_n (by decide), hm, hm1, hw, hw1]
      refine ab_cl ok_Me_recall rfl [_, _, _] [] rfl ⟨_, _, rfl, rfl, Or.inl ⟨_, _, rfl, rfl⟩⟩ (Nat.le_of_ble_eq_true rfl) (t_Sc_copyFrom_39 d fm X _ t _ (w := w - 1) rfl (by omega)) ?_
      rintro _ _ ⟨rfl, rfl⟩
      show ab_Z m_Me_recall _ _ _ 28 [_, _] [] _
      refine ab_go ok_Me_recall 1 rfl ?_
      show ab_Z m_Me_recall _ _ _ 29 [_, _] [_] _
      exact ab_rZ ok_Me_recall rfl (by decide) (⟨by rw [decide_eq_true h2]; rfl, by rw [if_pos h2]; unfold memB; rw [if_pos h4]; rfl⟩)
def slF (s : Nat → Nat → Int32) (k : Nat) : Nat → Nat → Int32 := ab_up (ab_ro s 40 (va_cpy (s 11) (s 40) 0 (40 * k) 40)) 38 2 (s 38 2 ||| (1 <<< (nI k &&& 31)))
def slT (s : Nat → Nat → Int32) (k : Nat) : Nat → Nat → Int32 := ab_up (upSt (ab_ro s 11 (va_cpy (s 40) (s 11) (40 * k) 0 40))) 38 4 0
theorem t_Me_fillSlot (x : Int32) : ab_T g_Me_fillSlot (d + 1) (0, 0) [.ref 38, .int x, .ref 10] (HA fm X s t) (fun v h => v = some (.int (bI (0 ≤ x.toInt ∧ x.toInt < 3))) ∧ h = HA fm X (if 0 ≤ x.toInt ∧ x.toInt < 3 then slF s x.toNatClampNeg else s) t) := by
  refine ab_T_of (M := m_Me_fillSlot) rfl rfl (Nat.le_of_ble_eq_true rfl) ?_
  show ab_Z m_Me_fillSlot _ _ _ 0 [_, _, _] [] _
  refine ab_go ok_Me_fillSlot 1 rfl ?_
  show ab_Z m_Me_fillSlot _ _ _ 1 [_, _, _] [_] _
  refine ab_br ok_Me_fillSlot rfl rfl ?_ ?_
  · intro h1
    show ab_Z m_Me_fillSlot _ _ _ 5 [_, _, _] [] _
    refine ab_go ok_Me_fillSlot 1 rfl ?_
    show ab_Z m_Me_fillSlot _ _ _ 6 [_, _, _] [_] _
    have h2 : ¬ (0 ≤ x.toInt ∧ x.toInt < 3) := by have := i_neg h1; omega
    exact ab_rZ ok_Me_fillSlot rfl (by decide) (⟨by rw [bI_f h2], by rw [if_neg h2]⟩)
  · intro h1
    show ab_Z m_Me_fillSlot _ _ _ 2 [_, _, _] [] _
    refine ab_go ok_Me_fillSlot 2 rfl ?_
    show ab_Z m_Me_fillSlot _ _ _ 4 [_, _, _] [_, _] _
    refine ab_br ok_Me_fillSlot rfl rfl ?_ ?_
    · intro h2
      show ab_Z m_Me_fillSlot _ _ _ 7 [_, _, _] [] _
      have h3 : 0 ≤ x.toInt ∧ x.toInt < 3 := ⟨i_nn h1, i_ltR (z := 3) rfl h2⟩
      have h4 : x = nI x.toNatClampNeg := i_nat h3.1
      have h5 : x.toNatClampNeg < 3 := by have := (ab_nn h3.1).2; omega
      refine ab_go ok_Me_fillSlot 4 rfl ?_
      show ab_Z m_Me_fillSlot _ _ _ 11 [_, _, _] [_, _, _] _
      refine ab_cl ok_Me_fillSlot rfl [_, _, _] [] rfl ⟨_, _, rfl, rfl, Or.inl ⟨_, _, rfl, rfl⟩⟩ (Nat.le_of_ble_eq_true rfl) (t_Sc_copyTo_40 d fm X s t _ h4 h5) ?_
      rintro _ _ ⟨rfl, rfl⟩
      show ab_Z m_Me_fillSlot _ _ _ 12 [_, _, _] [] _
      refine ab_go ok_Me_fillSlot 9 rfl ?_
      show ab_Z m_Me_fillSlot _ _ _ 21 [_, _, _] [_] _
      exact ab_rZ ok_Me_fillSlot rfl (by decide) (⟨by rw [bI_t h3], by rw [if_pos h3]; unfold slF; rw [← h4]; rfl⟩)
    · intro h2
      show ab_Z m_Me_fillSlot _ _ _ 5 [_, _, _] [] _
      refine ab_go ok_Me_fillSlot 1 rfl ?_
      show ab_Z m_Me_fillSlot _ _ _ 6 [_, _, _] [_] _
      have h3 : ¬ (0 ≤ x.toInt ∧ x.toInt < 3) := by have := i_nltR (z := 3) rfl h2; omega
      exact ab_rZ ok_Me_fillSlot rfl (by decide) (⟨by rw [bI_f h3], by rw [if_neg h3]⟩)
theorem t_Me_takeSlot (x : Int32) : ab_T g_Me_takeSlot (d + 1) (0, 0) [.ref 38, .int x, .ref 10] (HA fm X s t) (fun v h => v = some (.int (bI ((0 ≤ x.toInt ∧ x.toInt < 3) ∧ hbF (s 38 2) x = true))) ∧ h = HA fm X (if (0 ≤ x.toInt ∧ x.toInt < 3) ∧ hbF (s 38 2) x = true then slT s x.toNatClampNeg else s) t) := by
  refine ab_T_of (M := m_Me_takeSlot) rfl rfl (Nat.le_of_ble_eq_true rfl) ?_
  show ab_Z m_Me_takeSlot _ _ _ 0 [_, _, _] [] _
  refine ab_go ok_Me_takeSlot 1 rfl ?_
  show ab_Z m_Me_takeSlot _ _ _ 1 [_, _, _] [_] _
  refine ab_br ok_Me_takeSlot rfl rfl ?_ ?_
  · intro h1
    show ab_Z m_Me_takeSlot _ _ _ 10 [_, _, _] [] _
    refine ab_go ok_Me_takeSlot 1 rfl ?_
    show ab_Z m_Me_takeSlot _ _ _ 11 [_, _, _] [_] _
    have h2 : ¬ ((0 ≤ x.toInt ∧ x.toInt < 3) ∧ hbF (s 38 2) x = true) := by have := i_neg h1; omega
    exact ab_rZ ok_Me_takeSlot rfl (by decide) (⟨by rw [bI_f h2], by rw [if_neg h2]⟩)
  · intro h1
    show ab_Z m_Me_takeSlot _ _ _ 2 [_, _, _] [] _
    refine ab_go ok_Me_takeSlot 2 rfl ?_
    show ab_Z m_Me_takeSlot _ _ _ 4 [_, _, _] [_, _] _
    refine ab_br ok_Me_takeSlot rfl rfl ?_ ?_
    · intro h2
      show ab_Z m_Me_takeSlot _ _ _ 10 [_, _, _] [] _
      refine ab_go ok_Me_takeSlot 1 rfl ?_
      show ab_Z m_Me_takeSlot _ _ _ 11 [_, _, _] [_] _
      have h3 : ¬ ((0 ≤ x.toInt ∧ x.toInt < 3) ∧ hbF (s 38 2) x = true) := by have := i_leK (z := 3) rfl h2; omega
      exact ab_rZ ok_Me_takeSlot rfl (by decide) (⟨by rw [bI_f h3], by rw [if_neg h3]⟩)
    · intro h2
      show ab_Z m_Me_takeSlot _ _ _ 5 [_, _, _] [] _
      refine ab_go ok_Me_takeSlot 3 rfl ?_
      show ab_Z m_Me_takeSlot _ _ _ 8 [_, _, _] [_, _] _
      refine ab_cl ok_Me_takeSlot rfl [_, _] [] rfl rfl (Nat.le_of_ble_eq_true rfl) (t_SF_hasBit d _ (s 38 2) x) ?_
      rintro _ _ ⟨rfl, rfl⟩
      show ab_Z m_Me_takeSlot _ _ _ 9 [_, _, _] [_] _
      refine ab_br ok_Me_takeSlot rfl rfl ?_ ?_
      · intro hb
        show ab_Z m_Me_takeSlot _ _ _ 10 [_, _, _] [] _
        refine ab_go ok_Me_takeSlot 1 rfl ?_
        show ab_Z m_Me_takeSlot _ _ _ 11 [_, _, _] [_] _
        have h3 : ¬ ((0 ≤ x.toInt ∧ x.toInt < 3) ∧ hbF (s 38 2) x = true) := fun z => by rw [bB_0.mp hb] at z; exact absurd z.2 (by decide)
        exact ab_rZ ok_Me_takeSlot rfl (by decide) (⟨by rw [bI_f h3], by rw [if_neg h3]⟩)
      · intro hb
        show ab_Z m_Me_takeSlot _ _ _ 12 [_, _, _] [] _
        have h3 : (0 ≤ x.toInt ∧ x.toInt < 3) ∧ hbF (s 38 2) x = true := ⟨⟨i_nn h1, i_nleK (z := 3) rfl h2⟩, bB_n0 hb⟩
        have h4 : x = nI x.toNatClampNeg := i_nat h3.1.1
        have h5 : x.toNatClampNeg < 3 := by have := (ab_nn h3.1.1).2; omega
        refine ab_go ok_Me_takeSlot 4 rfl ?_
        show ab_Z m_Me_takeSlot _ _ _ 16 [_, _, _] [_, _, _] _
        refine ab_cl ok_Me_takeSlot rfl [_, _, _] [] rfl ⟨_, _, rfl, rfl, Or.inl ⟨_, _, rfl, rfl⟩⟩ (Nat.le_of_ble_eq_true rfl) (t_Sc_copyFrom_40 d fm X s t _ h4 h5) ?_
        rintro _ _ ⟨rfl, rfl⟩
        show ab_Z m_Me_takeSlot _ _ _ 17 [_, _, _] [] _
        refine ab_go ok_Me_takeSlot 4 rfl ?_
        show ab_Z m_Me_takeSlot _ _ _ 21 [_, _, _] [_] _
        exact ab_rZ ok_Me_takeSlot rfl (by decide) (⟨by rw [bI_t h3], by rw [if_pos h3]; rfl⟩)
theorem t_Me_slotsFull : ab_T g_Me_slotsFull (d + 1) (0, 0) [.ref 38] (HA fm X s t) (PI (bcF (s 38 2)) (HA fm X s t)) := by
  refine ab_T_of (M := m_Me_slotsFull) rfl rfl (Nat.le_of_ble_eq_true rfl) ?_
  show ab_Z m_Me_slotsFull _ _ _ 0 [_] [] _
  refine ab_go ok_Me_slotsFull 2 rfl ?_
  show ab_Z m_Me_slotsFull _ _ _ 2 [_] [_] _
  refine ab_cl ok_Me_slotsFull rfl [_] [] rfl rfl (Nat.le_of_ble_eq_true rfl) (t_JI_bitCount d _ _) ?_
  rintro _ _ ⟨rfl, rfl⟩
  show ab_Z m_Me_slotsFull _ _ _ 3 [_] [_] _
  exact ab_rI ok_Me_slotsFull rfl (⟨rfl, rfl⟩)
theorem t_Me_clearAll : ab_T g_Me_clearAll d (0, 0) [.ref 38] (HA fm X s t) (PV (HA fm X (ab_up (ab_up s 38 4 0) 38 2 0) t)) := by
  refine ab_T_of (M := m_Me_clearAll) rfl rfl (Nat.le_of_ble_eq_true rfl) ?_
  show ab_Z m_Me_clearAll _ _ _ 0 [_] [] _
  refine ab_go ok_Me_clearAll 6 rfl ?_
  show ab_Z m_Me_clearAll _ _ _ 6 [_] [] _
  exact ab_rV ok_Me_clearAll rfl (⟨rfl, rfl⟩)
theorem t_Tl_drop : ab_T g_Tl_drop d (0, 0) [.ref 41] (HA fm X s t) (PI (s 41 3) (HA fm X (ab_up s 41 3 0) t)) := by
  refine ab_T_of (M := m_Tl_drop) rfl rfl (Nat.le_of_ble_eq_true rfl) ?_
  show ab_Z m_Tl_drop _ _ _ 0 [_, _] [] _
  refine ab_go ok_Tl_drop 7 rfl ?_
  show ab_Z m_Tl_drop _ _ _ 7 [_, _] [_] _
  exact ab_rI ok_Tl_drop rfl (⟨rfl, rfl⟩)
theorem t_Tl_isKnown (x : Int32) : ab_T g_Tl_isKnown d (0, 0) [.ref 41, .int x] (HA fm X s t) (PI (bI (0 ≤ x.toInt ∧ x.toInt ≤ (s 41 3).toInt)) (HA fm X s t)) := by
  refine ab_T_of (M := m_Tl_isKnown) rfl rfl (Nat.le_of_ble_eq_true rfl) ?_
  show ab_Z m_Tl_isKnown _ _ _ 0 [_, _] [] _
  refine ab_go ok_Tl_isKnown 1 rfl ?_
  show ab_Z m_Tl_isKnown _ _ _ 1 [_, _] [_] _
  refine ab_br ok_Tl_isKnown rfl rfl ?_ ?_
  · intro h1
    show ab_Z m_Tl_isKnown _ _ _ 8 [_, _] [] _
    refine ab_go ok_Tl_isKnown 1 rfl ?_
    show ab_Z m_Tl_isKnown _ _ _ 9 [_, _] [_] _
    exact ab_rZ ok_Tl_isKnown rfl (by decide) (⟨by rw [bI_f (by have := i_neg h1; omega)], rfl⟩)
  · intro h1
    show ab_Z m_Tl_isKnown _ _ _ 2 [_, _] [] _
    refine ab_go ok_Tl_isKnown 3 rfl ?_
    show ab_Z m_Tl_isKnown _ _ _ 5 [_, _] [_, _] _
    refine ab_br ok_Tl_isKnown rfl rfl ?_ ?_
    · intro h2
      show ab_Z m_Tl_isKnown _ _ _ 8 [_, _] [] _
      refine ab_go ok_Tl_isKnown 1 rfl ?_
      show ab_Z m_Tl_isKnown _ _ _ 9 [_, _] [_] _
      exact ab_rZ ok_Tl_isKnown rfl (by decide) (⟨by rw [bI_f (by have := i_lt h2; omega)], rfl⟩)
    · intro h2
      show ab_Z m_Tl_isKnown _ _ _ 6 [_, _] [] _
      refine ab_go ok_Tl_isKnown 2 rfl ?_
      show ab_Z m_Tl_isKnown _ _ _ 9 [_, _] [_] _
      exact ab_rZ ok_Tl_isKnown rfl (by decide) (⟨by rw [bI_t (by have := i_nlt h2; have := i_nn h1; omega)], rfl⟩)
def toldS (s : Nat → Nat → Int32) (k : Nat) (f v b : Int32) : Nat → Nat → Int32 := ab_up (ab_up (ab_up (ab_up s 42 k f) 43 k v) 44 k (b &&& 1)) 41 3 (nI (k + 1))
theorem t_Tl_add {k : Nat} (hk : s 41 3 = nI k) (hk2 : k ≤ 20) (f v b : Int32) : ab_T g_Tl_add d (0, 0) [.ref 41, .int f, .int v, .int b] (HA fm X s t) (fun r h => r = some (.int (if k < 20 then nI k else -1)) ∧ h = HA fm X (if k < 20 then toldS s k f v b else s) t) := by
  refine ab_T_of (M := m_Tl_add) rfl rfl (Nat.le_of_ble_eq_true rfl) ?_
  show ab_Z m_Tl_add _ _ _ 0 [_, _, _, _] [] _
  refine ab_go ok_Tl_add 2 rfl ?_
  show ab_Z m_Tl_add _ _ _ 2 [_, _, _, _] [_] _
  rw [hk]
  refine ab_br ok_Tl_add rfl rfl ?_ ?_
  · intro h1
    show ab_Z m_Tl_add _ _ _ 7 [_, _, _, _] [] _
    exact absurd h1 (nI_l0 (by omega))
  · intro h1
    show ab_Z m_Tl_add _ _ _ 3 [_, _, _, _] [] _
    refine ab_go ok_Tl_add 3 rfl ?_
    show ab_Z m_Tl_add _ _ _ 6 [_, _, _, _] [_, _] _
    rw [hk]
    refine ab_br ok_Tl_add rfl rfl ?_ ?_
    · intro h2
      show ab_Z m_Tl_add _ _ _ 9 [_, _, _, _] [] _
      have h3 : k < 20 := by have := i_ltR (z := 20) rfl h2; rw [nI_t (by omega)] at this; omega
      refine ab_go ok_Tl_add 5 rfl ?_
      show ab_Z m_Tl_add _ _ _ 14 [_, _, _, _] [_, _, _] _
      rw [hk]
      refine ab_ck ok_Tl_add rfl rfl (by rw [nI_t (by omega)]; omega) ?_
      show ab_Z m_Tl_add _ _ _ 15 [_, _, _, _] [] _
      rw [nI_c (by omega)]
      refine ab_go ok_Tl_add 5 rfl ?_
      show ab_Z m_Tl_add _ _ _ 20 [_, _, _, _] [_, _, _] _
      rw [ab_up_o (by decide), hk]
      refine ab_ck ok_Tl_add rfl rfl (by rw [nI_t (by omega)]; omega) ?_
      show ab_Z m_Tl_add _ _ _ 21 [_, _, _, _] [] _
      rw [nI_c (by omega)]
      refine ab_go ok_Tl_add 5 rfl ?_
      show ab_Z m_Tl_add _ _ _ 26 [_, _, _, _] [_, _, _] _
      rw [ab_up_o (by decide), ab_up_o (by decide), hk]
      refine ab_ck ok_Tl_add rfl rfl (by rw [nI_t (by omega)]; omega) ?_
      show ab_Z m_Tl_add _ _ _ 27 [_, _, _, _] [] _
      rw [nI_c (by omega)]
      refine ab_go ok_Tl_add 10 rfl ?_
      show ab_Z m_Tl_add _ _ _ 37 [_, _, _, _] [_] _
      rw [ab_up_s, ab_up_o (by decide), ab_up_o (by decide), ab_up_o (by decide), hk]
      exact ab_rI ok_Tl_add rfl (⟨by rw [if_pos h3, Int32.add_sub_cancel], by rw [if_pos h3]; unfold toldS; rw [nI_succ]⟩)
    · intro h2
      show ab_Z m_Tl_add _ _ _ 7 [_, _, _, _] [] _
      have h3 : ¬ k < 20 := by have := i_nltR (z := 20) rfl h2; rw [nI_t (by omega)] at this; omega
      refine ab_go ok_Tl_add 1 rfl ?_
      show ab_Z m_Tl_add _ _ _ 8 [_, _, _, _] [_] _
      exact ab_rI ok_Tl_add rfl (⟨by rw [if_neg h3], by rw [if_neg h3]⟩)
/-- what was told first fits a print -/
def fitB (s : Nat → Nat → Int32) (pr : Nat → Int32) : Nat → Bool
  | 0 => true
  | k + 1 => fitB s pr k && decide ((if pr (s 42 k).toNatClampNeg < s 43 k then (0 : Int32) else 1) = s 44 k)
theorem fitB_no {s : Nat → Nat → Int32} {pr : Nat → Int32} {i : Nat} (h : fitB s pr i = false) : ∀ k, i ≤ k → fitB s pr k = false
  | 0, hk => by rw [Nat.le_zero.mp hk] at h; exact h
  | k + 1, hk => by
    rcases Nat.lt_or_ge k i with h1 | h1
    · rw [show i = k + 1 by omega] at h; exact h
    · rw [fitB, fitB_no h k h1]; rfl
theorem t_Tl_fits {k : Nat} (hk : k ≤ 20) (hf : ∀ i, i < k → ∃ f, f < 3 ∧ s 42 i = nI f) : ab_T g_Tl_fits (d + 1) (0, 0) [.ref 41, .int (nI k), .ref 13] (HA fm X s t) (PI (bB (fitB s (s 13) k)) (HA fm X s t)) := by
  refine ab_T_of (M := m_Tl_fits) rfl rfl (Nat.le_of_ble_eq_true rfl) ?_
  show ab_Z m_Tl_fits _ _ _ 0 [_, _, _, _, _] [] _
  refine ab_go ok_Tl_fits 2 rfl ?_
  show ab_Z m_Tl_fits _ _ _ 2 [_, _, _, _, _] [] _
  refine lp_dn k (fun i => fitB s (s 13) i = true → ab_Z m_Tl_fits (d + 1) (0, 0) (PI (bB (fitB s (s 13) k)) (HA fm X s t)) 2 [some (.ref 41), some (.int (nI k)), some (.ref 13), some (.int (nI i)), none] [] (HA fm X s t)) ?_ ?_ rfl
  · intro hfit
    refine ab_go ok_Tl_fits 2 rfl ?_
    show ab_Z m_Tl_fits _ _ _ 4 [_, _, _, _, _] [_, _] _
    refine ab_br ok_Tl_fits rfl rfl ?_ ?_
    · intro h1
      show ab_Z m_Tl_fits _ _ _ 33 [_, _, _, _, _] [] _
      refine ab_go ok_Tl_fits 1 rfl ?_
      show ab_Z m_Tl_fits _ _ _ 34 [_, _, _, _, _] [_] _
      exact ab_rZ ok_Tl_fits rfl (by decide) (⟨by rw [hfit]; rfl, rfl⟩)
    · intro h1
      show ab_Z m_Tl_fits _ _ _ 5 [_, _, _, _, _] [] _
      exact absurd (lp_out k) h1
  · intro i hi ih hfit
    obtain ⟨f, hf3, hfe⟩ := hf i hi
    refine ab_go ok_Tl_fits 2 rfl ?_
    show ab_Z m_Tl_fits _ _ _ 4 [_, _, _, _, _] [_, _] _
    refine ab_br ok_Tl_fits rfl rfl ?_ ?_
    · intro h1
      show ab_Z m_Tl_fits _ _ _ 33 [_, _, _, _, _] [] _
      exact absurd h1 (lp_in (by omega) hi)
    · intro h1
      show ab_Z m_Tl_fits _ _ _ 5 [_, _, _, _, _] [] _
      refine ab_go ok_Tl_fits 2 rfl ?_
      show ab_Z m_Tl_fits _ _ _ 7 [_, _, _, _, _] [_, _] _
      refine ab_br ok_Tl_fits rfl rfl ?_ ?_
      · intro h2
        show ab_Z m_Tl_fits _ _ _ 33 [_, _, _, _, _] [] _
        exact absurd h2 (lp_in (N := 20) (by decide) (by omega))
      · intro h2
        show ab_Z m_Tl_fits _ _ _ 8 [_, _, _, _, _] [] _
        refine ab_go ok_Tl_fits 4 rfl ?_
        show ab_Z m_Tl_fits _ _ _ 12 [_, _, _, _, _] [_, _, _] _
        refine ab_ck ok_Tl_fits rfl rfl (by rw [nI_t (by omega)]; omega) ?_
        show ab_Z m_Tl_fits _ _ _ 13 [_, _, _, _, _] [_, _] _
        rw [nI_c (by omega)]
        refine ab_cl ok_Tl_fits rfl [_, _] [] rfl rfl (Nat.le_of_ble_eq_true rfl) (t_SF_at_13 d fm X s t _ f hf3 hfe) ?_
        rintro _ _ ⟨rfl, rfl⟩
        show ab_Z m_Tl_fits _ _ _ 14 [_, _, _, _, _] [_] _
        refine ab_go ok_Tl_fits 3 rfl ?_
        show ab_Z m_Tl_fits _ _ _ 17 [_, _, _, _, _] [_, _, _] _
        refine ab_ck ok_Tl_fits rfl rfl (by rw [nI_t (by omega)]; omega) ?_
        show ab_Z m_Tl_fits _ _ _ 18 [_, _, _, _, _] [_, _] _
        rw [nI_c (by omega)]
        have e1 : fitB s (s 13) (i + 1) = decide ((if s 13 f < s 43 i then (0 : Int32) else 1) = s 44 i) := by
          rw [fitB, hfit, hfe, nI_c (by omega)]
          rfl
        refine ab_br ok_Tl_fits rfl rfl ?_ ?_
        · intro h3
          show ab_Z m_Tl_fits _ _ _ 21 [_, _, _, _, _] [] _
          rw [if_pos h3] at e1
          refine ab_go ok_Tl_fits 6 rfl ?_
          show ab_Z m_Tl_fits _ _ _ 27 [_, _, _, _, _] [_, _, _] _
          refine ab_ck ok_Tl_fits rfl rfl (by rw [nI_t (by omega)]; omega) ?_
          show ab_Z m_Tl_fits _ _ _ 28 [_, _, _, _, _] [_, _] _
          rw [nI_c (by omega)]
          refine ab_br ok_Tl_fits rfl rfl ?_ ?_
          · intro h4
            show ab_Z m_Tl_fits _ _ _ 31 [_, _, _, _, _] [] _
            refine ab_go ok_Tl_fits 2 rfl ?_
            show ab_Z m_Tl_fits _ _ _ 2 [_, _, _, _, _] [] _
            rw [decide_eq_true h4] at e1
            have ih2 := ih e1
            rw [nI_succ] at ih2
            exact ih2
          · intro h4
            show ab_Z m_Tl_fits _ _ _ 29 [_, _, _, _, _] [] _
            refine ab_go ok_Tl_fits 1 rfl ?_
            show ab_Z m_Tl_fits _ _ _ 30 [_, _, _, _, _] [_] _
            rw [decide_eq_false h4] at e1
            exact ab_rZ ok_Tl_fits rfl (by decide) (⟨by rw [fitB_no e1 k (by omega)]; rfl, rfl⟩)
        · intro h3
          show ab_Z m_Tl_fits _ _ _ 19 [_, _, _, _, _] [] _
          rw [if_neg h3] at e1
          refine ab_go ok_Tl_fits 7 rfl ?_
          show ab_Z m_Tl_fits _ _ _ 27 [_, _, _, _, _] [_, _, _] _
          refine ab_ck ok_Tl_fits rfl rfl (by rw [nI_t (by omega)]; omega) ?_
          show ab_Z m_Tl_fits _ _ _ 28 [_, _, _, _, _] [_, _] _
          rw [nI_c (by omega)]
          refine ab_br ok_Tl_fits rfl rfl ?_ ?_
          · intro h4
            show ab_Z m_Tl_fits _ _ _ 31 [_, _, _, _, _] [] _
            refine ab_go ok_Tl_fits 2 rfl ?_
            show ab_Z m_Tl_fits _ _ _ 2 [_, _, _, _, _] [] _
            rw [decide_eq_true h4] at e1
            have ih2 := ih e1
            rw [nI_succ] at ih2
            exact ih2
          · intro h4
            show ab_Z m_Tl_fits _ _ _ 29 [_, _, _, _, _] [] _
            refine ab_go ok_Tl_fits 1 rfl ?_
            show ab_Z m_Tl_fits _ _ _ 30 [_, _, _, _, _] [_] _
            rw [decide_eq_false h4] at e1
            exact ab_rZ ok_Tl_fits rfl (by decide) (⟨by rw [fitB_no e1 k (by omega)]; rfl, rfl⟩)
end

