/-! the texts are made, the hall, the class (written by gen_init2.py) -/
section
variable (d : Nat) (s : Nat → Nat → Int32) (t : Nat → Nat → Int64) (ro : Nat → Nat → Value) (X : Nat × (Nat → Int32))
abbrev rT14 : Nat → Nat → Value := ab_up (ab_up (ab_ro (ab_up (ab_ro (ab_up (ab_ro (ab_ro (ab_up (ab_up (ab_ro (ab_up (ab_ro (ab_up (ab_ro (ab_ro (ab_up (ab_up (ab_ro (ab_up (ab_ro (ab_up (ab_ro (ab_ro (ab_up (ab_up (ab_ro (ab_up (ab_ro (ab_up (ab_ro (ab_ro (ab_up (ab_ro (ab_up (ab_ro (ab_up (ab_ro (ab_up (ab_ro (ab_up (ab_ro (ab_up (ab_ro (ab_up (ab_ro ro 15 (fun _ => .null)) 14 0 (.ref 15)) 16 (fun _ => .null)) 14 1 (.ref 16)) 17 (fun _ => .null)) 14 2 (.ref 17)) 18 (fun _ => .null)) 14 3 (.ref 18)) 19 (fun _ => .null)) 14 4 (.ref 19)) 20 (fun _ => .null)) 14 5 (.ref 20)) 21 (fun _ => .null)) 14 6 (.ref 21)) 22 (fun _ => .null)) 23 (fun _ => .null)) 22 0 (.ref 23)) 24 (fun _ => .null)) 22 1 (.ref 24)) 25 (fun _ => .null)) 22 2 (.ref 25)) 14 7 (.ref 22)) 26 (fun _ => .null)) 27 (fun _ => .null)) 26 0 (.ref 27)) 28 (fun _ => .null)) 26 1 (.ref 28)) 29 (fun _ => .null)) 26 2 (.ref 29)) 14 8 (.ref 26)) 30 (fun _ => .null)) 31 (fun _ => .null)) 30 0 (.ref 31)) 32 (fun _ => .null)) 30 1 (.ref 32)) 33 (fun _ => .null)) 30 2 (.ref 33)) 14 9 (.ref 30)) 34 (fun _ => .null)) 35 (fun _ => .null)) 34 0 (.ref 35)) 36 (fun _ => .null)) 34 1 (.ref 36)) 37 (fun _ => .null)) 34 2 (.ref 37)) 14 10 (.ref 34)
theorem v_La_clear_22 : ab_T g_La_clear d (0, 0) [.ref 22] (shA.take 38, s, t, rT14 ro, X) (PV (shA.take 38, (ab_up (ab_up s 22 3 (0)) 22 4 (0)), t, rT14 ro, X)) := by
  refine ab_T_of (M := m_La_clear) rfl rfl (Nat.le_of_ble_eq_true rfl) ?_
  show ab_Z m_La_clear _ _ _ 0 [_] [] _
  refine ab_go ok_La_clear 6 rfl ?_
  show ab_Z m_La_clear _ _ _ 6 [_] [] _
  exact ab_rV ok_La_clear rfl (⟨rfl, rfl⟩)
theorem v_La_add_22 (x : Int32) : ab_T g_La_add d (0, 0) [.ref 22, .int x] (shA.take 38, (ab_up (ab_up s 22 3 (0)) 22 4 (0)), t, rT14 ro, X) (PV (shA.take 38, (ab_up (ab_up (ab_up (ab_up s 22 3 (0)) 22 4 (0)) 23 0 x) 22 3 (1)), t, rT14 ro, X)) := by
  refine ab_T_of (M := m_La_add) rfl rfl (Nat.le_of_ble_eq_true rfl) ?_
  show ab_Z m_La_add _ _ _ 0 [_, _] [] _
  refine ab_go ok_La_add 2 rfl ?_
  show ab_Z m_La_add _ _ _ 2 [_, _] [_] _
  refine ab_go ok_La_add 1 rfl ?_
  show ab_Z m_La_add _ _ _ 3 [_, _] [] _
  refine ab_go ok_La_add 5 rfl ?_
  show ab_Z m_La_add _ _ _ 8 [_, _] [_, _] _
  refine ab_go ok_La_add 1 rfl ?_
  show ab_Z m_La_add _ _ _ 9 [_, _] [] _
  refine ab_go ok_La_add 5 rfl ?_
  show ab_Z m_La_add _ _ _ 14 [_, _] [_, _, _] _
  refine ab_is ok_La_add rfl rfl (k := 0) (by first | rfl | (simp only [LL1, LL2, LL3, LL4, LL5, LL6, LL7, LL8, LL10, LL15, LL18, LL20, LL21, LL22, LL23, LL24, LL32, LL39, LL40, LL130, LL420, pk_mul, nI_add]; done) | (simp only [LL1, LL2, LL3, LL4, LL5, LL6, LL7, LL8, LL10, LL15, LL18, LL20, LL21, LL22, LL23, LL24, LL32, LL39, LL40, LL130, LL420, pk_mul, nI_add]; congr 1; omega)) (by omega) (Nat.le_of_ble_eq_true rfl) ?_
  show ab_Z m_La_add _ _ _ 15 [_, _] [] _
  refine ab_go ok_La_add 6 rfl ?_
  show ab_Z m_La_add _ _ _ 21 [_, _] [] _
  exact ab_rV ok_La_add rfl (⟨rfl, rfl⟩)
theorem v_La_endPart_22 (x : Int32) : ab_T g_La_endPart d (0, 0) [.ref 22] (shA.take 38, (ab_up (ab_up (ab_up (ab_up s 22 3 (0)) 22 4 (0)) 23 0 x) 22 3 (1)), t, rT14 ro, X) (PV (shA.take 38, (ab_up (ab_up (ab_up (ab_up (ab_up (ab_up s 22 3 (0)) 22 4 (0)) 23 0 (x)) 22 3 (1)) 24 0 (1)) 22 4 (1)), t, rT14 ro, X)) := by
  refine ab_T_of (M := m_La_endPart) rfl rfl (Nat.le_of_ble_eq_true rfl) ?_
  show ab_Z m_La_endPart _ _ _ 0 [_] [] _
  refine ab_go ok_La_endPart 2 rfl ?_
  show ab_Z m_La_endPart _ _ _ 2 [_] [_] _
  refine ab_go ok_La_endPart 1 rfl ?_
  show ab_Z m_La_endPart _ _ _ 3 [_] [] _
  refine ab_go ok_La_endPart 5 rfl ?_
  show ab_Z m_La_endPart _ _ _ 8 [_] [_, _] _
  refine ab_go ok_La_endPart 1 rfl ?_
  show ab_Z m_La_endPart _ _ _ 9 [_] [] _
  refine ab_go ok_La_endPart 6 rfl ?_
  show ab_Z m_La_endPart _ _ _ 15 [_] [_, _, _] _
  refine ab_is ok_La_endPart rfl rfl (k := 0) (by first | rfl | (simp only [LL1, LL2, LL3, LL4, LL5, LL6, LL7, LL8, LL10, LL15, LL18, LL20, LL21, LL22, LL23, LL24, LL32, LL39, LL40, LL130, LL420, pk_mul, nI_add]; done) | (simp only [LL1, LL2, LL3, LL4, LL5, LL6, LL7, LL8, LL10, LL15, LL18, LL20, LL21, LL22, LL23, LL24, LL32, LL39, LL40, LL130, LL420, pk_mul, nI_add]; congr 1; omega)) (by omega) (Nat.le_of_ble_eq_true rfl) ?_
  show ab_Z m_La_endPart _ _ _ 16 [_] [] _
  refine ab_go ok_La_endPart 6 rfl ?_
  show ab_Z m_La_endPart _ _ _ 22 [_] [] _
  exact ab_rV ok_La_endPart rfl (⟨rfl, rfl⟩)
theorem v_La_setTo_22 (x : Int32) : ab_T g_La_setTo (d + 1) (0, 0) [.ref 22, .int x] (shA.take 38, s, t, rT14 ro, X) (PV (shA.take 38, (ab_up (ab_up (ab_up (ab_up (ab_up (ab_up s 22 3 (0)) 22 4 (0)) 23 0 (x)) 22 3 (1)) 24 0 (1)) 22 4 (1)), t, rT14 ro, X)) := by
  refine ab_T_of (M := m_La_setTo) rfl rfl (Nat.le_of_ble_eq_true rfl) ?_
  show ab_Z m_La_setTo _ _ _ 0 [_, _] [] _
  refine ab_go ok_La_setTo 1 rfl ?_
  show ab_Z m_La_setTo _ _ _ 1 [_, _] [_] _
  refine ab_cl ok_La_setTo rfl [_] [] rfl ⟨_, _, rfl, rfl, Or.inl ⟨_, _, rfl, rfl⟩⟩ (Nat.le_of_ble_eq_true rfl) (v_La_clear_22 d s t ro X) ?_
  rintro _ _ ⟨rfl, rfl⟩
  show ab_Z m_La_setTo _ _ _ 2 [_, _] [] _
  refine ab_go ok_La_setTo 2 rfl ?_
  show ab_Z m_La_setTo _ _ _ 4 [_, _] [_, _] _
  refine ab_cl ok_La_setTo rfl [_, _] [] rfl ⟨_, _, rfl, rfl, Or.inl ⟨_, _, rfl, rfl⟩⟩ (Nat.le_of_ble_eq_true rfl) (v_La_add_22 d s t ro X x) ?_
  rintro _ _ ⟨rfl, rfl⟩
  show ab_Z m_La_setTo _ _ _ 5 [_, _] [] _
  refine ab_go ok_La_setTo 1 rfl ?_
  show ab_Z m_La_setTo _ _ _ 6 [_, _] [_] _
  refine ab_cl ok_La_setTo rfl [_] [] rfl ⟨_, _, rfl, rfl, Or.inl ⟨_, _, rfl, rfl⟩⟩ (Nat.le_of_ble_eq_true rfl) (v_La_endPart_22 d s t ro X x) ?_
  rintro _ _ ⟨rfl, rfl⟩
  show ab_Z m_La_setTo _ _ _ 7 [_, _] [] _
  exact ab_rV ok_La_setTo rfl (⟨rfl, rfl⟩)
theorem v_La_clear_26 : ab_T g_La_clear d (0, 0) [.ref 26] (shA.take 38, s, t, rT14 ro, X) (PV (shA.take 38, (ab_up (ab_up s 26 3 (0)) 26 4 (0)), t, rT14 ro, X)) := by
  refine ab_T_of (M := m_La_clear) rfl rfl (Nat.le_of_ble_eq_true rfl) ?_
  show ab_Z m_La_clear _ _ _ 0 [_] [] _
  refine ab_go ok_La_clear 6 rfl ?_
  show ab_Z m_La_clear _ _ _ 6 [_] [] _
  exact ab_rV ok_La_clear rfl (⟨rfl, rfl⟩)
theorem v_La_add_26 (x : Int32) : ab_T g_La_add d (0, 0) [.ref 26, .int x] (shA.take 38, (ab_up (ab_up s 26 3 (0)) 26 4 (0)), t, rT14 ro, X) (PV (shA.take 38, (ab_up (ab_up (ab_up (ab_up s 26 3 (0)) 26 4 (0)) 27 0 x) 26 3 (1)), t, rT14 ro, X)) := by
  refine ab_T_of (M := m_La_add) rfl rfl (Nat.le_of_ble_eq_true rfl) ?_
  show ab_Z m_La_add _ _ _ 0 [_, _] [] _
  refine ab_go ok_La_add 2 rfl ?_
  show ab_Z m_La_add _ _ _ 2 [_, _] [_] _
  refine ab_go ok_La_add 1 rfl ?_
  show ab_Z m_La_add _ _ _ 3 [_, _] [] _
  refine ab_go ok_La_add 5 rfl ?_
  show ab_Z m_La_add _ _ _ 8 [_, _] [_, _] _
  refine ab_go ok_La_add 1 rfl ?_
  show ab_Z m_La_add _ _ _ 9 [_, _] [] _
  refine ab_go ok_La_add 5 rfl ?_
  show ab_Z m_La_add _ _ _ 14 [_, _] [_, _, _] _
  refine ab_is ok_La_add rfl rfl (k := 0) (by first | rfl | (simp only [LL1, LL2, LL3, LL4, LL5, LL6, LL7, LL8, LL10, LL15, LL18, LL20, LL21, LL22, LL23, LL24, LL32, LL39, LL40, LL130, LL420, pk_mul, nI_add]; done) | (simp only [LL1, LL2, LL3, LL4, LL5, LL6, LL7, LL8, LL10, LL15, LL18, LL20, LL21, LL22, LL23, LL24, LL32, LL39, LL40, LL130, LL420, pk_mul, nI_add]; congr 1; omega)) (by omega) (Nat.le_of_ble_eq_true rfl) ?_
  show ab_Z m_La_add _ _ _ 15 [_, _] [] _
  refine ab_go ok_La_add 6 rfl ?_
  show ab_Z m_La_add _ _ _ 21 [_, _] [] _
  exact ab_rV ok_La_add rfl (⟨rfl, rfl⟩)
theorem v_La_endPart_26 (x : Int32) : ab_T g_La_endPart d (0, 0) [.ref 26] (shA.take 38, (ab_up (ab_up (ab_up (ab_up s 26 3 (0)) 26 4 (0)) 27 0 x) 26 3 (1)), t, rT14 ro, X) (PV (shA.take 38, (ab_up (ab_up (ab_up (ab_up (ab_up (ab_up s 26 3 (0)) 26 4 (0)) 27 0 (x)) 26 3 (1)) 28 0 (1)) 26 4 (1)), t, rT14 ro, X)) := by
  refine ab_T_of (M := m_La_endPart) rfl rfl (Nat.le_of_ble_eq_true rfl) ?_
  show ab_Z m_La_endPart _ _ _ 0 [_] [] _
  refine ab_go ok_La_endPart 2 rfl ?_
  show ab_Z m_La_endPart _ _ _ 2 [_] [_] _
  refine ab_go ok_La_endPart 1 rfl ?_
  show ab_Z m_La_endPart _ _ _ 3 [_] [] _
  refine ab_go ok_La_endPart 5 rfl ?_
  show ab_Z m_La_endPart _ _ _ 8 [_] [_, _] _
  refine ab_go ok_La_endPart 1 rfl ?_
  show ab_Z m_La_endPart _ _ _ 9 [_] [] _
  refine ab_go ok_La_endPart 6 rfl ?_
  show ab_Z m_La_endPart _ _ _ 15 [_] [_, _, _] _
  refine ab_is ok_La_endPart rfl rfl (k := 0) (by first | rfl | (simp only [LL1, LL2, LL3, LL4, LL5, LL6, LL7, LL8, LL10, LL15, LL18, LL20, LL21, LL22, LL23, LL24, LL32, LL39, LL40, LL130, LL420, pk_mul, nI_add]; done) | (simp only [LL1, LL2, LL3, LL4, LL5, LL6, LL7, LL8, LL10, LL15, LL18, LL20, LL21, LL22, LL23, LL24, LL32, LL39, LL40, LL130, LL420, pk_mul, nI_add]; congr 1; omega)) (by omega) (Nat.le_of_ble_eq_true rfl) ?_
  show ab_Z m_La_endPart _ _ _ 16 [_] [] _
  refine ab_go ok_La_endPart 6 rfl ?_
  show ab_Z m_La_endPart _ _ _ 22 [_] [] _
  exact ab_rV ok_La_endPart rfl (⟨rfl, rfl⟩)
theorem v_La_setTo_26 (x : Int32) : ab_T g_La_setTo (d + 1) (0, 0) [.ref 26, .int x] (shA.take 38, s, t, rT14 ro, X) (PV (shA.take 38, (ab_up (ab_up (ab_up (ab_up (ab_up (ab_up s 26 3 (0)) 26 4 (0)) 27 0 (x)) 26 3 (1)) 28 0 (1)) 26 4 (1)), t, rT14 ro, X)) := by
  refine ab_T_of (M := m_La_setTo) rfl rfl (Nat.le_of_ble_eq_true rfl) ?_
  show ab_Z m_La_setTo _ _ _ 0 [_, _] [] _
  refine ab_go ok_La_setTo 1 rfl ?_
  show ab_Z m_La_setTo _ _ _ 1 [_, _] [_] _
  refine ab_cl ok_La_setTo rfl [_] [] rfl ⟨_, _, rfl, rfl, Or.inl ⟨_, _, rfl, rfl⟩⟩ (Nat.le_of_ble_eq_true rfl) (v_La_clear_26 d s t ro X) ?_
  rintro _ _ ⟨rfl, rfl⟩
  show ab_Z m_La_setTo _ _ _ 2 [_, _] [] _
  refine ab_go ok_La_setTo 2 rfl ?_
  show ab_Z m_La_setTo _ _ _ 4 [_, _] [_, _] _
  refine ab_cl ok_La_setTo rfl [_, _] [] rfl ⟨_, _, rfl, rfl, Or.inl ⟨_, _, rfl, rfl⟩⟩ (Nat.le_of_ble_eq_true rfl) (v_La_add_26 d s t ro X x) ?_
  rintro _ _ ⟨rfl, rfl⟩
  show ab_Z m_La_setTo _ _ _ 5 [_, _] [] _
  refine ab_go ok_La_setTo 1 rfl ?_
  show ab_Z m_La_setTo _ _ _ 6 [_, _] [_] _
  refine ab_cl ok_La_setTo rfl [_] [] rfl ⟨_, _, rfl, rfl, Or.inl ⟨_, _, rfl, rfl⟩⟩ (Nat.le_of_ble_eq_true rfl) (v_La_endPart_26 d s t ro X x) ?_
  rintro _ _ ⟨rfl, rfl⟩
  show ab_Z m_La_setTo _ _ _ 7 [_, _] [] _
  exact ab_rV ok_La_setTo rfl (⟨rfl, rfl⟩)
theorem v_La_clear_30 : ab_T g_La_clear d (0, 0) [.ref 30] (shA.take 38, s, t, rT14 ro, X) (PV (shA.take 38, (ab_up (ab_up s 30 3 (0)) 30 4 (0)), t, rT14 ro, X)) := by
  refine ab_T_of (M := m_La_clear) rfl rfl (Nat.le_of_ble_eq_true rfl) ?_
  show ab_Z m_La_clear _ _ _ 0 [_] [] _
  refine ab_go ok_La_clear 6 rfl ?_
  show ab_Z m_La_clear _ _ _ 6 [_] [] _
  exact ab_rV ok_La_clear rfl (⟨rfl, rfl⟩)
theorem v_La_add_30 (x : Int32) : ab_T g_La_add d (0, 0) [.ref 30, .int x] (shA.take 38, (ab_up (ab_up s 30 3 (0)) 30 4 (0)), t, rT14 ro, X) (PV (shA.take 38, (ab_up (ab_up (ab_up (ab_up s 30 3 (0)) 30 4 (0)) 31 0 x) 30 3 (1)), t, rT14 ro, X)) := by
  refine ab_T_of (M := m_La_add) rfl rfl (Nat.le_of_ble_eq_true rfl) ?_
  show ab_Z m_La_add _ _ _ 0 [_, _] [] _
  refine ab_go ok_La_add 2 rfl ?_
  show ab_Z m_La_add _ _ _ 2 [_, _] [_] _
  refine ab_go ok_La_add 1 rfl ?_
  show ab_Z m_La_add _ _ _ 3 [_, _] [] _
  refine ab_go ok_La_add 5 rfl ?_
  show ab_Z m_La_add _ _ _ 8 [_, _] [_, _] _
  refine ab_go ok_La_add 1 rfl ?_
  show ab_Z m_La_add _ _ _ 9 [_, _] [] _
  refine ab_go ok_La_add 5 rfl ?_
  show ab_Z m_La_add _ _ _ 14 [_, _] [_, _, _] _
  refine ab_is ok_La_add rfl rfl (k := 0) (by first | rfl | (simp only [LL1, LL2, LL3, LL4, LL5, LL6, LL7, LL8, LL10, LL15, LL18, LL20, LL21, LL22, LL23, LL24, LL32, LL39, LL40, LL130, LL420, pk_mul, nI_add]; done) | (simp only [LL1, LL2, LL3, LL4, LL5, LL6, LL7, LL8, LL10, LL15, LL18, LL20, LL21, LL22, LL23, LL24, LL32, LL39, LL40, LL130, LL420, pk_mul, nI_add]; congr 1; omega)) (by omega) (Nat.le_of_ble_eq_true rfl) ?_
  show ab_Z m_La_add _ _ _ 15 [_, _] [] _
  refine ab_go ok_La_add 6 rfl ?_
  show ab_Z m_La_add _ _ _ 21 [_, _] [] _
  exact ab_rV ok_La_add rfl (⟨rfl, rfl⟩)
theorem v_La_endPart_30 (x : Int32) : ab_T g_La_endPart d (0, 0) [.ref 30] (shA.take 38, (ab_up (ab_up (ab_up (ab_up s 30 3 (0)) 30 4 (0)) 31 0 x) 30 3 (1)), t, rT14 ro, X) (PV (shA.take 38, (ab_up (ab_up (ab_up (ab_up (ab_up (ab_up s 30 3 (0)) 30 4 (0)) 31 0 (x)) 30 3 (1)) 32 0 (1)) 30 4 (1)), t, rT14 ro, X)) := by
  refine ab_T_of (M := m_La_endPart) rfl rfl (Nat.le_of_ble_eq_true rfl) ?_
  show ab_Z m_La_endPart _ _ _ 0 [_] [] _
  refine ab_go ok_La_endPart 2 rfl ?_
  show ab_Z m_La_endPart _ _ _ 2 [_] [_] _
  refine ab_go ok_La_endPart 1 rfl ?_
  show ab_Z m_La_endPart _ _ _ 3 [_] [] _
  refine ab_go ok_La_endPart 5 rfl ?_
  show ab_Z m_La_endPart _ _ _ 8 [_] [_, _] _
  refine ab_go ok_La_endPart 1 rfl ?_
  show ab_Z m_La_endPart _ _ _ 9 [_] [] _
  refine ab_go ok_La_endPart 6 rfl ?_
  show ab_Z m_La_endPart _ _ _ 15 [_] [_, _, _] _
  refine ab_is ok_La_endPart rfl rfl (k := 0) (by first | rfl | (simp only [LL1, LL2, LL3, LL4, LL5, LL6, LL7, LL8, LL10, LL15, LL18, LL20, LL21, LL22, LL23, LL24, LL32, LL39, LL40, LL130, LL420, pk_mul, nI_add]; done) | (simp only [LL1, LL2, LL3, LL4, LL5, LL6, LL7, LL8, LL10, LL15, LL18, LL20, LL21, LL22, LL23, LL24, LL32, LL39, LL40, LL130, LL420, pk_mul, nI_add]; congr 1; omega)) (by omega) (Nat.le_of_ble_eq_true rfl) ?_
  show ab_Z m_La_endPart _ _ _ 16 [_] [] _
  refine ab_go ok_La_endPart 6 rfl ?_
  show ab_Z m_La_endPart _ _ _ 22 [_] [] _
  exact ab_rV ok_La_endPart rfl (⟨rfl, rfl⟩)
theorem v_La_setTo_30 (x : Int32) : ab_T g_La_setTo (d + 1) (0, 0) [.ref 30, .int x] (shA.take 38, s, t, rT14 ro, X) (PV (shA.take 38, (ab_up (ab_up (ab_up (ab_up (ab_up (ab_up s 30 3 (0)) 30 4 (0)) 31 0 (x)) 30 3 (1)) 32 0 (1)) 30 4 (1)), t, rT14 ro, X)) := by
  refine ab_T_of (M := m_La_setTo) rfl rfl (Nat.le_of_ble_eq_true rfl) ?_
  show ab_Z m_La_setTo _ _ _ 0 [_, _] [] _
  refine ab_go ok_La_setTo 1 rfl ?_
  show ab_Z m_La_setTo _ _ _ 1 [_, _] [_] _
  refine ab_cl ok_La_setTo rfl [_] [] rfl ⟨_, _, rfl, rfl, Or.inl ⟨_, _, rfl, rfl⟩⟩ (Nat.le_of_ble_eq_true rfl) (v_La_clear_30 d s t ro X) ?_
  rintro _ _ ⟨rfl, rfl⟩
  show ab_Z m_La_setTo _ _ _ 2 [_, _] [] _
  refine ab_go ok_La_setTo 2 rfl ?_
  show ab_Z m_La_setTo _ _ _ 4 [_, _] [_, _] _
  refine ab_cl ok_La_setTo rfl [_, _] [] rfl ⟨_, _, rfl, rfl, Or.inl ⟨_, _, rfl, rfl⟩⟩ (Nat.le_of_ble_eq_true rfl) (v_La_add_30 d s t ro X x) ?_
  rintro _ _ ⟨rfl, rfl⟩
  show ab_Z m_La_setTo _ _ _ 5 [_, _] [] _
  refine ab_go ok_La_setTo 1 rfl ?_
  show ab_Z m_La_setTo _ _ _ 6 [_, _] [_] _
  refine ab_cl ok_La_setTo rfl [_] [] rfl ⟨_, _, rfl, rfl, Or.inl ⟨_, _, rfl, rfl⟩⟩ (Nat.le_of_ble_eq_true rfl) (v_La_endPart_30 d s t ro X x) ?_
  rintro _ _ ⟨rfl, rfl⟩
  show ab_Z m_La_setTo _ _ _ 7 [_, _] [] _
  exact ab_rV ok_La_setTo rfl (⟨rfl, rfl⟩)
theorem v_La_clear_34 : ab_T g_La_clear d (0, 0) [.ref 34] (shA.take 38, s, t, rT14 ro, X) (PV (shA.take 38, (ab_up (ab_up s 34 3 (0)) 34 4 (0)), t, rT14 ro, X)) := by
  refine ab_T_of (M := m_La_clear) rfl rfl (Nat.le_of_ble_eq_true rfl) ?_
  show ab_Z m_La_clear _ _ _ 0 [_] [] _
  refine ab_go ok_La_clear 6 rfl ?_
  show ab_Z m_La_clear _ _ _ 6 [_] [] _
  exact ab_rV ok_La_clear rfl (⟨rfl, rfl⟩)
theorem v_La_add_34 (x : Int32) : ab_T g_La_add d (0, 0) [.ref 34, .int x] (shA.take 38, (ab_up (ab_up s 34 3 (0)) 34 4 (0)), t, rT14 ro, X) (PV (shA.take 38, (ab_up (ab_up (ab_up (ab_up s 34 3 (0)) 34 4 (0)) 35 0 x) 34 3 (1)), t, rT14 ro, X)) := by
  refine ab_T_of (M := m_La_add) rfl rfl (Nat.le_of_ble_eq_true rfl) ?_
  show ab_Z m_La_add _ _ _ 0 [_, _] [] _
  refine ab_go ok_La_add 2 rfl ?_
  show ab_Z m_La_add _ _ _ 2 [_, _] [_] _
  refine ab_go ok_La_add 1 rfl ?_
  show ab_Z m_La_add _ _ _ 3 [_, _] [] _
  refine ab_go ok_La_add 5 rfl ?_
  show ab_Z m_La_add _ _ _ 8 [_, _] [_, _] _
  refine ab_go ok_La_add 1 rfl ?_
  show ab_Z m_La_add _ _ _ 9 [_, _] [] _
  refine ab_go ok_La_add 5 rfl ?_
  show ab_Z m_La_add _ _ _ 14 [_, _] [_, _, _] _
  refine ab_is ok_La_add rfl rfl (k := 0) (by first | rfl | (simp only [LL1, LL2, LL3, LL4, LL5, LL6, LL7, LL8, LL10, LL15, LL18, LL20, LL21, LL22, LL23, LL24, LL32, LL39, LL40, LL130, LL420, pk_mul, nI_add]; done) | (simp only [LL1, LL2, LL3, LL4, LL5, LL6, LL7, LL8, LL10, LL15, LL18, LL20, LL21, LL22, LL23, LL24, LL32, LL39, LL40, LL130, LL420, pk_mul, nI_add]; congr 1; omega)) (by omega) (Nat.le_of_ble_eq_true rfl) ?_
  show ab_Z m_La_add _ _ _ 15 [_, _] [] _
  refine ab_go ok_La_add 6 rfl ?_
  show ab_Z m_La_add _ _ _ 21 [_, _] [] _
  exact ab_rV ok_La_add rfl (⟨rfl, rfl⟩)
theorem v_La_endPart_34 (x : Int32) : ab_T g_La_endPart d (0, 0) [.ref 34] (shA.take 38, (ab_up (ab_up (ab_up (ab_up s 34 3 (0)) 34 4 (0)) 35 0 x) 34 3 (1)), t, rT14 ro, X) (PV (shA.take 38, (ab_up (ab_up (ab_up (ab_up (ab_up (ab_up s 34 3 (0)) 34 4 (0)) 35 0 (x)) 34 3 (1)) 36 0 (1)) 34 4 (1)), t, rT14 ro, X)) := by
  refine ab_T_of (M := m_La_endPart) rfl rfl (Nat.le_of_ble_eq_true rfl) ?_
  show ab_Z m_La_endPart _ _ _ 0 [_] [] _
  refine ab_go ok_La_endPart 2 rfl ?_
  show ab_Z m_La_endPart _ _ _ 2 [_] [_] _
  refine ab_go ok_La_endPart 1 rfl ?_
  show ab_Z m_La_endPart _ _ _ 3 [_] [] _
  refine ab_go ok_La_endPart 5 rfl ?_
  show ab_Z m_La_endPart _ _ _ 8 [_] [_, _] _
  refine ab_go ok_La_endPart 1 rfl ?_
  show ab_Z m_La_endPart _ _ _ 9 [_] [] _
  refine ab_go ok_La_endPart 6 rfl ?_
  show ab_Z m_La_endPart _ _ _ 15 [_] [_, _, _] _
  refine ab_is ok_La_endPart rfl rfl (k := 0) (by first | rfl | (simp only [LL1, LL2, LL3, LL4, LL5, LL6, LL7, LL8, LL10, LL15, LL18, LL20, LL21, LL22, LL23, LL24, LL32, LL39, LL40, LL130, LL420, pk_mul, nI_add]; done) | (simp only [LL1, LL2, LL3, LL4, LL5, LL6, LL7, LL8, LL10, LL15, LL18, LL20, LL21, LL22, LL23, LL24, LL32, LL39, LL40, LL130, LL420, pk_mul, nI_add]; congr 1; omega)) (by omega) (Nat.le_of_ble_eq_true rfl) ?_
  show ab_Z m_La_endPart _ _ _ 16 [_] [] _
  refine ab_go ok_La_endPart 6 rfl ?_
  show ab_Z m_La_endPart _ _ _ 22 [_] [] _
  exact ab_rV ok_La_endPart rfl (⟨rfl, rfl⟩)
theorem v_La_setTo_34 (x : Int32) : ab_T g_La_setTo (d + 1) (0, 0) [.ref 34, .int x] (shA.take 38, s, t, rT14 ro, X) (PV (shA.take 38, (ab_up (ab_up (ab_up (ab_up (ab_up (ab_up s 34 3 (0)) 34 4 (0)) 35 0 (x)) 34 3 (1)) 36 0 (1)) 34 4 (1)), t, rT14 ro, X)) := by
  refine ab_T_of (M := m_La_setTo) rfl rfl (Nat.le_of_ble_eq_true rfl) ?_
  show ab_Z m_La_setTo _ _ _ 0 [_, _] [] _
  refine ab_go ok_La_setTo 1 rfl ?_
  show ab_Z m_La_setTo _ _ _ 1 [_, _] [_] _
  refine ab_cl ok_La_setTo rfl [_] [] rfl ⟨_, _, rfl, rfl, Or.inl ⟨_, _, rfl, rfl⟩⟩ (Nat.le_of_ble_eq_true rfl) (v_La_clear_34 d s t ro X) ?_
  rintro _ _ ⟨rfl, rfl⟩
  show ab_Z m_La_setTo _ _ _ 2 [_, _] [] _
  refine ab_go ok_La_setTo 2 rfl ?_
  show ab_Z m_La_setTo _ _ _ 4 [_, _] [_, _] _
  refine ab_cl ok_La_setTo rfl [_, _] [] rfl ⟨_, _, rfl, rfl, Or.inl ⟨_, _, rfl, rfl⟩⟩ (Nat.le_of_ble_eq_true rfl) (v_La_add_34 d s t ro X x) ?_
  rintro _ _ ⟨rfl, rfl⟩
  show ab_Z m_La_setTo _ _ _ 5 [_, _] [] _
  refine ab_go ok_La_setTo 1 rfl ?_
  show ab_Z m_La_setTo _ _ _ 6 [_, _] [_] _
  refine ab_cl ok_La_setTo rfl [_] [] rfl ⟨_, _, rfl, rfl, Or.inl ⟨_, _, rfl, rfl⟩⟩ (Nat.le_of_ble_eq_true rfl) (v_La_endPart_34 d s t ro X x) ?_
  rintro _ _ ⟨rfl, rfl⟩
  show ab_Z m_La_setTo _ _ _ 7 [_, _] [] _
  exact ab_rV ok_La_setTo rfl (⟨rfl, rfl⟩)
theorem v_Te_clear_14 : ab_T g_Te_clear (d + 2) (0, 0) [.ref 14] (shA.take 38, s, t, rT14 ro, X) (PV (shA.take 38, (ab_up (ab_up (ab_up (ab_up (ab_up (ab_up (ab_up (ab_up (ab_up (ab_up (ab_up (ab_up (ab_up (ab_up (ab_up (ab_up (ab_up (ab_up (ab_up (ab_up (ab_up (ab_up (ab_up (ab_up (ab_up (ab_up (ab_up (ab_up (ab_up s 14 11 (0)) 14 12 (0)) 14 13 (0)) 14 14 (0)) 14 15 (0)) 22 3 (0)) 22 4 (0)) 23 0 (-268)) 22 3 (1)) 24 0 (1)) 22 4 (1)) 26 3 (0)) 26 4 (0)) 27 0 (0)) 26 3 (1)) 28 0 (1)) 26 4 (1)) 30 3 (0)) 30 4 (0)) 31 0 (-271)) 30 3 (1)) 32 0 (1)) 30 4 (1)) 34 3 (0)) 34 4 (0)) 35 0 (0)) 34 3 (1)) 36 0 (1)) 34 4 (1)), t, rT14 ro, X)) := by
  refine ab_T_of (M := m_Te_clear) rfl rfl (Nat.le_of_ble_eq_true rfl) ?_
  show ab_Z m_Te_clear _ _ _ 0 [_] [] _
  refine ab_go ok_Te_clear 18 rfl ?_
  show ab_Z m_Te_clear _ _ _ 18 [_] [_, _] _
  refine ab_cl ok_Te_clear rfl [_, _] [] rfl ⟨_, _, rfl, rfl, Or.inl ⟨_, _, rfl, rfl⟩⟩ (Nat.le_of_ble_eq_true rfl) (v_La_setTo_22 d _ t ro X _) ?_
  rintro _ _ ⟨rfl, rfl⟩
  show ab_Z m_Te_clear _ _ _ 19 [_] [] _
  refine ab_go ok_Te_clear 3 rfl ?_
  show ab_Z m_Te_clear _ _ _ 22 [_] [_, _] _
  refine ab_cl ok_Te_clear rfl [_, _] [] rfl ⟨_, _, rfl, rfl, Or.inl ⟨_, _, rfl, rfl⟩⟩ (Nat.le_of_ble_eq_true rfl) (v_La_setTo_26 d _ t ro X _) ?_
  rintro _ _ ⟨rfl, rfl⟩
  show ab_Z m_Te_clear _ _ _ 23 [_] [] _
  refine ab_go ok_Te_clear 3 rfl ?_
  show ab_Z m_Te_clear _ _ _ 26 [_] [_, _] _
  refine ab_cl ok_Te_clear rfl [_, _] [] rfl ⟨_, _, rfl, rfl, Or.inl ⟨_, _, rfl, rfl⟩⟩ (Nat.le_of_ble_eq_true rfl) (v_La_setTo_30 d _ t ro X _) ?_
  rintro _ _ ⟨rfl, rfl⟩
  show ab_Z m_Te_clear _ _ _ 27 [_] [] _
  refine ab_go ok_Te_clear 3 rfl ?_
  show ab_Z m_Te_clear _ _ _ 30 [_] [_, _] _
  refine ab_cl ok_Te_clear rfl [_, _] [] rfl ⟨_, _, rfl, rfl, Or.inl ⟨_, _, rfl, rfl⟩⟩ (Nat.le_of_ble_eq_true rfl) (v_La_setTo_34 d _ t ro X _) ?_
  rintro _ _ ⟨rfl, rfl⟩
  show ab_Z m_Te_clear _ _ _ 31 [_] [] _
  exact ab_rV ok_Te_clear rfl (⟨rfl, rfl⟩)
theorem t_Te_init_14 : ab_T g_Te_init (d + 3) (23, 1803) [.ref 14] (shA.take 15, s, t, ro, X) (fun r h => r = none ∧ h = (shA.take 38, ab_up (ab_up (ab_up (ab_up (ab_up (ab_up (ab_up (ab_up (ab_up (ab_up (ab_up (ab_up (ab_up (ab_up (ab_up (ab_up (ab_up (ab_up (ab_up (ab_up (ab_up (ab_up (ab_up (ab_up (ab_up (ab_up (ab_up (ab_up (ab_up (ab_up (ab_up (ab_up (ab_up (ab_up (ab_up (ab_up (ab_up (ab_ro (ab_ro (ab_ro (ab_ro (ab_up (ab_up (ab_up (ab_ro (ab_ro (ab_ro (ab_ro (ab_up (ab_up (ab_up (ab_ro (ab_ro (ab_ro (ab_ro (ab_up (ab_up (ab_up (ab_ro (ab_ro (ab_ro (ab_ro (ab_ro (ab_ro (ab_ro (ab_ro (ab_ro (ab_ro (ab_ro s 15 (fun _ => 0)) 16 (fun _ => 0)) 17 (fun _ => 0)) 18 (fun _ => 0)) 19 (fun _ => 0)) 20 (fun _ => 0)) 21 (fun _ => 0)) 22 (fun _ => 0)) 23 (fun _ => 0)) 24 (fun _ => 0)) 25 (fun _ => 0)) 22 3 (0)) 22 4 (0)) 22 5 (0)) 26 (fun _ => 0)) 27 (fun _ => 0)) 28 (fun _ => 0)) 29 (fun _ => 0)) 26 3 (0)) 26 4 (0)) 26 5 (0)) 30 (fun _ => 0)) 31 (fun _ => 0)) 32 (fun _ => 0)) 33 (fun _ => 0)) 30 3 (0)) 30 4 (0)) 30 5 (0)) 34 (fun _ => 0)) 35 (fun _ => 0)) 36 (fun _ => 0)) 37 (fun _ => 0)) 34 3 (0)) 34 4 (0)) 34 5 (0)) 14 11 (0)) 14 12 (0)) 14 13 (0)) 14 14 (0)) 14 15 (0)) 14 11 (0)) 14 12 (0)) 14 13 (0)) 14 14 (0)) 14 15 (0)) 22 3 (0)) 22 4 (0)) 23 0 (-268)) 22 3 (1)) 24 0 (1)) 22 4 (1)) 26 3 (0)) 26 4 (0)) 27 0 (0)) 26 3 (1)) 28 0 (1)) 26 4 (1)) 30 3 (0)) 30 4 (0)) 31 0 (-271)) 30 3 (1)) 32 0 (1)) 30 4 (1)) 34 3 (0)) 34 4 (0)) 35 0 (0)) 34 3 (1)) 36 0 (1)) 34 4 (1), ab_ro (ab_ro (ab_ro (ab_ro (ab_ro (ab_ro (ab_ro (ab_ro (ab_ro (ab_ro (ab_ro (ab_ro (ab_ro (ab_ro (ab_ro (ab_ro (ab_ro (ab_ro (ab_ro (ab_ro (ab_ro (ab_ro (ab_ro t 15 (fun _ => 0)) 16 (fun _ => 0)) 17 (fun _ => 0)) 18 (fun _ => 0)) 19 (fun _ => 0)) 20 (fun _ => 0)) 21 (fun _ => 0)) 22 (fun _ => 0)) 23 (fun _ => 0)) 24 (fun _ => 0)) 25 (fun _ => 0)) 26 (fun _ => 0)) 27 (fun _ => 0)) 28 (fun _ => 0)) 29 (fun _ => 0)) 30 (fun _ => 0)) 31 (fun _ => 0)) 32 (fun _ => 0)) 33 (fun _ => 0)) 34 (fun _ => 0)) 35 (fun _ => 0)) 36 (fun _ => 0)) 37 (fun _ => 0), ab_up (ab_up (ab_ro (ab_up (ab_ro (ab_up (ab_ro (ab_ro (ab_up (ab_up (ab_ro (ab_up (ab_ro (ab_up (ab_ro (ab_ro (ab_up (ab_up (ab_ro (ab_up (ab_ro (ab_up (ab_ro (ab_ro (ab_up (ab_up (ab_ro (ab_up (ab_ro (ab_up (ab_ro (ab_ro (ab_up (ab_ro (ab_up (ab_ro (ab_up (ab_ro (ab_up (ab_ro (ab_up (ab_ro (ab_up (ab_ro (ab_up (ab_ro ro 15 (fun _ => .null)) 14 0 (.ref 15)) 16 (fun _ => .null)) 14 1 (.ref 16)) 17 (fun _ => .null)) 14 2 (.ref 17)) 18 (fun _ => .null)) 14 3 (.ref 18)) 19 (fun _ => .null)) 14 4 (.ref 19)) 20 (fun _ => .null)) 14 5 (.ref 20)) 21 (fun _ => .null)) 14 6 (.ref 21)) 22 (fun _ => .null)) 23 (fun _ => .null)) 22 0 (.ref 23)) 24 (fun _ => .null)) 22 1 (.ref 24)) 25 (fun _ => .null)) 22 2 (.ref 25)) 14 7 (.ref 22)) 26 (fun _ => .null)) 27 (fun _ => .null)) 26 0 (.ref 27)) 28 (fun _ => .null)) 26 1 (.ref 28)) 29 (fun _ => .null)) 26 2 (.ref 29)) 14 8 (.ref 26)) 30 (fun _ => .null)) 31 (fun _ => .null)) 30 0 (.ref 31)) 32 (fun _ => .null)) 30 1 (.ref 32)) 33 (fun _ => .null)) 30 2 (.ref 33)) 14 9 (.ref 30)) 34 (fun _ => .null)) 35 (fun _ => .null)) 34 0 (.ref 35)) 36 (fun _ => .null)) 34 1 (.ref 36)) 37 (fun _ => .null)) 34 2 (.ref 37)) 14 10 (.ref 34), X)) := by
  refine ab_T_of (M := m_Te_init) rfl rfl (Nat.le_of_ble_eq_true rfl) ?_
  show ab_Z m_Te_init _ _ _ 0 [_] [] _
  refine ab_go ok_Te_init 4 rfl ?_
  show ab_Z m_Te_init _ _ _ 4 [_] [_, _] _
  refine ab_nwL ok_Te_init (b' := (22, 1798)) rfl (show (5 : Int32) = nI 5 from rfl) (by decide) (n := 15) rfl rfl (by decide) rfl rfl ?_
  show ab_Z m_Te_init _ _ _ 5 [_] [_, _] (shA.take 16, _, _, _, _)
  refine ab_pr ok_Te_init rfl rfl (by decide) (by decide) ?_
  show ab_Z m_Te_init _ _ _ 6 [_] [] (shA.take 16, _, _, _, _)
  refine ab_go ok_Te_init 2 rfl ?_
  show ab_Z m_Te_init _ _ _ 8 [_] [_, _] _
  refine ab_nwI ok_Te_init (b' := (21, 1793)) rfl (show (5 : Int32) = nI 5 from rfl) (by decide) (n := 16) rfl rfl (by decide) rfl rfl ?_
  show ab_Z m_Te_init _ _ _ 9 [_] [_, _] (shA.take 17, _, _, _, _)
  refine ab_pr ok_Te_init rfl rfl (by decide) (by decide) ?_
  show ab_Z m_Te_init _ _ _ 10 [_] [] (shA.take 17, _, _, _, _)
  refine ab_go ok_Te_init 2 rfl ?_
  show ab_Z m_Te_init _ _ _ 12 [_] [_, _] _
  refine ab_nwI ok_Te_init (b' := (20, 1778)) rfl (show (15 : Int32) = nI 15 from rfl) (by decide) (n := 17) rfl rfl (by decide) rfl rfl ?_
  show ab_Z m_Te_init _ _ _ 13 [_] [_, _] (shA.take 18, _, _, _, _)
  refine ab_pr ok_Te_init rfl rfl (by decide) (by decide) ?_
  show ab_Z m_Te_init _ _ _ 14 [_] [] (shA.take 18, _, _, _, _)
  refine ab_go ok_Te_init 2 rfl ?_
  show ab_Z m_Te_init _ _ _ 16 [_] [_, _] _
  refine ab_nwL ok_Te_init (b' := (19, 1772)) rfl (show (6 : Int32) = nI 6 from rfl) (by decide) (n := 18) rfl rfl (by decide) rfl rfl ?_
  show ab_Z m_Te_init _ _ _ 17 [_] [_, _] (shA.take 19, _, _, _, _)
  refine ab_pr ok_Te_init rfl rfl (by decide) (by decide) ?_
  show ab_Z m_Te_init _ _ _ 18 [_] [] (shA.take 19, _, _, _, _)
  refine ab_go ok_Te_init 2 rfl ?_
  show ab_Z m_Te_init _ _ _ 20 [_] [_, _] _
  refine ab_nwI ok_Te_init (b' := (18, 1766)) rfl (show (6 : Int32) = nI 6 from rfl) (by decide) (n := 19) rfl rfl (by decide) rfl rfl ?_
  show ab_Z m_Te_init _ _ _ 21 [_] [_, _] (shA.take 20, _, _, _, _)
  refine ab_pr ok_Te_init rfl rfl (by decide) (by decide) ?_
  show ab_Z m_Te_init _ _ _ 22 [_] [] (shA.take 20, _, _, _, _)
  refine ab_go ok_Te_init 2 rfl ?_
  show ab_Z m_Te_init _ _ _ 24 [_] [_, _] _
  refine ab_nwI ok_Te_init (b' := (17, 1748)) rfl (show (18 : Int32) = nI 18 from rfl) (by decide) (n := 20) rfl rfl (by decide) rfl rfl ?_
  show ab_Z m_Te_init _ _ _ 25 [_] [_, _] (shA.take 21, _, _, _, _)
  refine ab_pr ok_Te_init rfl rfl (by decide) (by decide) ?_
  show ab_Z m_Te_init _ _ _ 26 [_] [] (shA.take 21, _, _, _, _)
  refine ab_go ok_Te_init 2 rfl ?_
  show ab_Z m_Te_init _ _ _ 28 [_] [_, _] _
  refine ab_nwI ok_Te_init (b' := (16, 1736)) rfl (show (12 : Int32) = nI 12 from rfl) (by decide) (n := 21) rfl rfl (by decide) rfl rfl ?_
  show ab_Z m_Te_init _ _ _ 29 [_] [_, _] (shA.take 22, _, _, _, _)
  refine ab_pr ok_Te_init rfl rfl (by decide) (by decide) ?_
  show ab_Z m_Te_init _ _ _ 30 [_] [] (shA.take 22, _, _, _, _)
  refine ab_go ok_Te_init 1 rfl ?_
  show ab_Z m_Te_init _ _ _ 31 [_] [_] _
  refine ab_nw ok_Te_init (b' := (15, 1730)) rfl (n := 22) rfl rfl (by decide) rfl rfl ?_
  show ab_Z m_Te_init _ _ _ 32 [_] [_, _] (shA.take 23, _, _, _, _)
  refine ab_go ok_Te_init 1 rfl ?_
  show ab_Z m_Te_init _ _ _ 33 [_] [_, _, _] _
  refine ab_clm ok_Te_init (b' := (12, 1302)) (c := (3, 428)) rfl [_] [_, _] rfl ⟨_, _, rfl, rfl, Or.inl ⟨_, _, rfl, rfl⟩⟩ (Nat.le_of_ble_eq_true rfl) (n := 23) rfl rfl rfl rfl (t_La_init_22 (d + 2) _ _ _ X) ?_
  rintro _ _ ⟨rfl, rfl⟩
  show ab_Z m_Te_init _ _ _ 34 [_] [_, _] (shA.take 26, _, _, _, _)
  refine ab_pr ok_Te_init rfl rfl (by decide) (by decide) ?_
  show ab_Z m_Te_init _ _ _ 35 [_] [] (shA.take 26, _, _, _, _)
  refine ab_go ok_Te_init 1 rfl ?_
  show ab_Z m_Te_init _ _ _ 36 [_] [_] _
  refine ab_nw ok_Te_init (b' := (11, 1296)) rfl (n := 26) rfl rfl (by decide) rfl rfl ?_
  show ab_Z m_Te_init _ _ _ 37 [_] [_, _] (shA.take 27, _, _, _, _)
  refine ab_go ok_Te_init 1 rfl ?_
  show ab_Z m_Te_init _ _ _ 38 [_] [_, _, _] _
  refine ab_clm ok_Te_init (b' := (8, 868)) (c := (3, 428)) rfl [_] [_, _] rfl ⟨_, _, rfl, rfl, Or.inl ⟨_, _, rfl, rfl⟩⟩ (Nat.le_of_ble_eq_true rfl) (n := 27) rfl rfl rfl rfl (t_La_init_26 (d + 2) _ _ _ X) ?_
  rintro _ _ ⟨rfl, rfl⟩
  show ab_Z m_Te_init _ _ _ 39 [_] [_, _] (shA.take 30, _, _, _, _)
  refine ab_pr ok_Te_init rfl rfl (by decide) (by decide) ?_
  show ab_Z m_Te_init _ _ _ 40 [_] [] (shA.take 30, _, _, _, _)
  refine ab_go ok_Te_init 1 rfl ?_
  show ab_Z m_Te_init _ _ _ 41 [_] [_] _
  refine ab_nw ok_Te_init (b' := (7, 862)) rfl (n := 30) rfl rfl (by decide) rfl rfl ?_
  show ab_Z m_Te_init _ _ _ 42 [_] [_, _] (shA.take 31, _, _, _, _)
  refine ab_go ok_Te_init 1 rfl ?_
  show ab_Z m_Te_init _ _ _ 43 [_] [_, _, _] _
  refine ab_clm ok_Te_init (b' := (4, 434)) (c := (3, 428)) rfl [_] [_, _] rfl ⟨_, _, rfl, rfl, Or.inl ⟨_, _, rfl, rfl⟩⟩ (Nat.le_of_ble_eq_true rfl) (n := 31) rfl rfl rfl rfl (t_La_init_30 (d + 2) _ _ _ X) ?_
  rintro _ _ ⟨rfl, rfl⟩
  show ab_Z m_Te_init _ _ _ 44 [_] [_, _] (shA.take 34, _, _, _, _)
  refine ab_pr ok_Te_init rfl rfl (by decide) (by decide) ?_
  show ab_Z m_Te_init _ _ _ 45 [_] [] (shA.take 34, _, _, _, _)
  refine ab_go ok_Te_init 1 rfl ?_
  show ab_Z m_Te_init _ _ _ 46 [_] [_] _
  refine ab_nw ok_Te_init (b' := (3, 428)) rfl (n := 34) rfl rfl (by decide) rfl rfl ?_
  show ab_Z m_Te_init _ _ _ 47 [_] [_, _] (shA.take 35, _, _, _, _)
  refine ab_go ok_Te_init 1 rfl ?_
  show ab_Z m_Te_init _ _ _ 48 [_] [_, _, _] _
  refine ab_clm ok_Te_init (b' := (0, 0)) (c := (3, 428)) rfl [_] [_, _] rfl ⟨_, _, rfl, rfl, Or.inl ⟨_, _, rfl, rfl⟩⟩ (Nat.le_of_ble_eq_true rfl) (n := 35) rfl rfl rfl rfl (t_La_init_34 (d + 2) _ _ _ X) ?_
  rintro _ _ ⟨rfl, rfl⟩
  show ab_Z m_Te_init _ _ _ 49 [_] [_, _] (shA.take 38, _, _, _, _)
  refine ab_pr ok_Te_init rfl rfl (by decide) (by decide) ?_
  show ab_Z m_Te_init _ _ _ 50 [_] [] (shA.take 38, _, _, _, _)
  refine ab_go ok_Te_init 16 rfl ?_
  show ab_Z m_Te_init _ _ _ 66 [_] [_] _
  refine ab_clm ok_Te_init (b' := (0, 0)) (c := (0, 0)) rfl [_] [] rfl ⟨_, _, rfl, rfl, Or.inl ⟨_, _, rfl, rfl⟩⟩ (Nat.le_of_ble_eq_true rfl) (n := 38) rfl rfl rfl rfl (v_Te_clear_14 d _ _ ro X) ?_
  rintro _ _ ⟨rfl, rfl⟩
  show ab_Z m_Te_init _ _ _ 67 [_] [] (shA.take 38, _, _, _, _)
  exact ab_rV ok_Te_init rfl (⟨rfl, rfl⟩)
end
section
variable (d : Nat) (s : Nat → Nat → Int32) (t : Nat → Nat → Int64) (ro : Nat → Nat → Value) (X : Nat × (Nat → Int32))
abbrev rT57 : Nat → Nat → Value := ab_up (ab_up (ab_ro (ab_up (ab_ro (ab_up (ab_ro (ab_ro (ab_up (ab_up (ab_ro (ab_up (ab_ro (ab_up (ab_ro (ab_ro (ab_up (ab_up (ab_ro (ab_up (ab_ro (ab_up (ab_ro (ab_ro (ab_up (ab_up (ab_ro (ab_up (ab_ro (ab_up (ab_ro (ab_ro (ab_up (ab_ro (ab_up (ab_ro (ab_up (ab_ro (ab_up (ab_ro (ab_up (ab_ro (ab_up (ab_ro (ab_up (ab_ro ro 58 (fun _ => .null)) 57 0 (.ref 58)) 59 (fun _ => .null)) 57 1 (.ref 59)) 60 (fun _ => .null)) 57 2 (.ref 60)) 61 (fun _ => .null)) 57 3 (.ref 61)) 62 (fun _ => .null)) 57 4 (.ref 62)) 63 (fun _ => .null)) 57 5 (.ref 63)) 64 (fun _ => .null)) 57 6 (.ref 64)) 65 (fun _ => .null)) 66 (fun _ => .null)) 65 0 (.ref 66)) 67 (fun _ => .null)) 65 1 (.ref 67)) 68 (fun _ => .null)) 65 2 (.ref 68)) 57 7 (.ref 65)) 69 (fun _ => .null)) 70 (fun _ => .null)) 69 0 (.ref 70)) 71 (fun _ => .null)) 69 1 (.ref 71)) 72 (fun _ => .null)) 69 2 (.ref 72)) 57 8 (.ref 69)) 73 (fun _ => .null)) 74 (fun _ => .null)) 73 0 (.ref 74)) 75 (fun _ => .null)) 73 1 (.ref 75)) 76 (fun _ => .null)) 73 2 (.ref 76)) 57 9 (.ref 73)) 77 (fun _ => .null)) 78 (fun _ => .null)) 77 0 (.ref 78)) 79 (fun _ => .null)) 77 1 (.ref 79)) 80 (fun _ => .null)) 77 2 (.ref 80)) 57 10 (.ref 77)
theorem v_La_clear_65 : ab_T g_La_clear d (0, 0) [.ref 65] (shA.take 81, s, t, rT57 ro, X) (PV (shA.take 81, (ab_up (ab_up s 65 3 (0)) 65 4 (0)), t, rT57 ro, X)) := by
  refine ab_T_of (M := m_La_clear) rfl rfl (Nat.le_of_ble_eq_true rfl) ?_
  show ab_Z m_La_clear _ _ _ 0 [_] [] _
  refine ab_go ok_La_clear 6 rfl ?_
  show ab_Z m_La_clear _ _ _ 6 [_] [] _
  exact ab_rV ok_La_clear rfl (⟨rfl, rfl⟩)
theorem v_La_add_65 (x : Int32) : ab_T g_La_add d (0, 0) [.ref 65, .int x] (shA.take 81, (ab_up (ab_up s 65 3 (0)) 65 4 (0)), t, rT57 ro, X) (PV (shA.take 81, (ab_up (ab_up (ab_up (ab_up s 65 3 (0)) 65 4 (0)) 66 0 x) 65 3 (1)), t, rT57 ro, X)) := by
  refine ab_T_of (M := m_La_add) rfl rfl (Nat.le_of_ble_eq_true rfl) ?_
  show ab_Z m_La_add _ _ _ 0 [_, _] [] _
  refine ab_go ok_La_add 2 rfl ?_
  show ab_Z m_La_add _ _ _ 2 [_, _] [_] _
  refine ab_go ok_La_add 1 rfl ?_
  show ab_Z m_La_add _ _ _ 3 [_, _] [] _
  refine ab_go ok_La_add 5 rfl ?_
  show ab_Z m_La_add _ _ _ 8 [_, _] [_, _] _
  refine ab_go ok_La_add 1 rfl ?_
  show ab_Z m_La_add _ _ _ 9 [_, _] [] _
  refine ab_go ok_La_add 5 rfl ?_
  show ab_Z m_La_add _ _ _ 14 [_, _] [_, _, _] _
  refine ab_is ok_La_add rfl rfl (k := 0) (by first | rfl | (simp only [LL1, LL2, LL3, LL4, LL5, LL6, LL7, LL8, LL10, LL15, LL18, LL20, LL21, LL22, LL23, LL24, LL32, LL39, LL40, LL130, LL420, pk_mul, nI_add]; done) | (simp only [LL1, LL2, LL3, LL4, LL5, LL6, LL7, LL8, LL10, LL15, LL18, LL20, LL21, LL22, LL23, LL24, LL32, LL39, LL40, LL130, LL420, pk_mul, nI_add]; congr 1; omega)) (by omega) (Nat.le_of_ble_eq_true rfl) ?_
  show ab_Z m_La_add _ _ _ 15 [_, _] [] _
  refine ab_go ok_La_add 6 rfl ?_
  show ab_Z m_La_add _ _ _ 21 [_, _] [] _
  exact ab_rV ok_La_add rfl (⟨rfl, rfl⟩)
theorem v_La_endPart_65 (x : Int32) : ab_T g_La_endPart d (0, 0) [.ref 65] (shA.take 81, (ab_up (ab_up (ab_up (ab_up s 65 3 (0)) 65 4 (0)) 66 0 x) 65 3 (1)), t, rT57 ro, X) (PV (shA.take 81, (ab_up (ab_up (ab_up (ab_up (ab_up (ab_up s 65 3 (0)) 65 4 (0)) 66 0 (x)) 65 3 (1)) 67 0 (1)) 65 4 (1)), t, rT57 ro, X)) := by
  refine ab_T_of (M := m_La_endPart) rfl rfl (Nat.le_of_ble_eq_true rfl) ?_
  show ab_Z m_La_endPart _ _ _ 0 [_] [] _
  refine ab_go ok_La_endPart 2 rfl ?_
  show ab_Z m_La_endPart _ _ _ 2 [_] [_] _
  refine ab_go ok_La_endPart 1 rfl ?_
  show ab_Z m_La_endPart _ _ _ 3 [_] [] _
  refine ab_go ok_La_endPart 5 rfl ?_
  show ab_Z m_La_endPart _ _ _ 8 [_] [_, _] _
  refine ab_go ok_La_endPart 1 rfl ?_
  show ab_Z m_La_endPart _ _ _ 9 [_] [] _
  refine ab_go ok_La_endPart 6 rfl ?_
  show ab_Z m_La_endPart _ _ _ 15 [_] [_, _, _] _
  refine ab_is ok_La_endPart rfl rfl (k := 0) (by first | rfl | (simp only [LL1, LL2, LL3, LL4, LL5, LL6, LL7, LL8, LL10, LL15, LL18, LL20, LL21, LL22, LL23, LL24, LL32, LL39, LL40, LL130, LL420, pk_mul, nI_add]; done) | (simp only [LL1, LL2, LL3, LL4, LL5, LL6, LL7, LL8, LL10, LL15, LL18, LL20, LL21, LL22, LL23, LL24, LL32, LL39, LL40, LL130, LL420, pk_mul, nI_add]; congr 1; omega)) (by omega) (Nat.le_of_ble_eq_true rfl) ?_
  show ab_Z m_La_endPart _ _ _ 16 [_] [] _
  refine ab_go ok_La_endPart 6 rfl ?_
  show ab_Z m_La_endPart _ _ _ 22 [_] [] _
  exact ab_rV ok_La_endPart rfl (⟨rfl, rfl⟩)
theorem v_La_setTo_65 (x : Int32) : ab_T g_La_setTo (d + 1) (0, 0) [.ref 65, .int x] (shA.take 81, s, t, rT57 ro, X) (PV (shA.take 81, (ab_up (ab_up (ab_up (ab_up (ab_up (ab_up s 65 3 (0)) 65 4 (0)) 66 0 (x)) 65 3 (1)) 67 0 (1)) 65 4 (1)), t, rT57 ro, X)) := by
  refine ab_T_of (M := m_La_setTo) rfl rfl (Nat.le_of_ble_eq_true rfl) ?_
  show ab_Z m_La_setTo _ _ _ 0 [_, _] [] _
  refine ab_go ok_La_setTo 1 rfl ?_
  show ab_Z m_La_setTo _ _ _ 1 [_, _] [_] _
  refine ab_cl ok_La_setTo rfl [_] [] rfl ⟨_, _, rfl, rfl, Or.inl ⟨_, _, rfl, rfl⟩⟩ (Nat.le_of_ble_eq_true rfl) (v_La_clear_65 d s t ro X) ?_
  rintro _ _ ⟨rfl, rfl⟩
  show ab_Z m_La_setTo _ _ _ 2 [_, _] [] _
  refine ab_go ok_La_setTo 2 rfl ?_
  show ab_Z m_La_setTo _ _ _ 4 [_, _] [_, _] _
  refine ab_cl ok_La_setTo rfl [_, _] [] rfl ⟨_, _, rfl, rfl, Or.inl ⟨_, _, rfl, rfl⟩⟩ (Nat.le_of_ble_eq_true rfl) (v_La_add_65 d s t ro X x) ?_
  rintro _ _ ⟨rfl, rfl⟩
  show ab_Z m_La_setTo _ _ _ 5 [_, _] [] _
  refine ab_go ok_La_setTo 1 rfl ?_
  show ab_Z m_La_setTo _ _ _ 6 [_, _] [_] _
  refine ab_cl ok_La_setTo rfl [_] [] rfl ⟨_, _, rfl, rfl, Or.inl ⟨_, _, rfl, rfl⟩⟩ (Nat.le_of_ble_eq_true rfl) (v_La_endPart_65 d s t ro X x) ?_
  rintro _ _ ⟨rfl, rfl⟩
  show ab_Z m_La_setTo _ _ _ 7 [_, _] [] _
  exact ab_rV ok_La_setTo rfl (⟨rfl, rfl⟩)
theorem v_La_clear_69 : ab_T g_La_clear d (0, 0) [.ref 69] (shA.take 81, s, t, rT57 ro, X) (PV (shA.take 81, (ab_up (ab_up s 69 3 (0)) 69 4 (0)), t, rT57 ro, X)) := by
  refine ab_T_of (M := m_La_clear) rfl rfl (Nat.le_of_ble_eq_true rfl) ?_
  show ab_Z m_La_clear _ _ _ 0 [_] [] _
  refine ab_go ok_La_clear 6 rfl ?_
  show ab_Z m_La_clear _ _ _ 6 [_] [] _
  exact ab_rV ok_La_clear rfl (⟨rfl, rfl⟩)
theorem v_La_add_69 (x : Int32) : ab_T g_La_add d (0, 0) [.ref 69, .int x] (shA.take 81, (ab_up (ab_up s 69 3 (0)) 69 4 (0)), t, rT57 ro, X) (PV (shA.take 81, (ab_up (ab_up (ab_up (ab_up s 69 3 (0)) 69 4 (0)) 70 0 x) 69 3 (1)), t, rT57 ro, X)) := by
  refine ab_T_of (M := m_La_add) rfl rfl (Nat.le_of_ble_eq_true rfl) ?_
  show ab_Z m_La_add _ _ _ 0 [_, _] [] _
  refine ab_go ok_La_add 2 rfl ?_
  show ab_Z m_La_add _ _ _ 2 [_, _] [_] _
  refine ab_go ok_La_add 1 rfl ?_
  show ab_Z m_La_add _ _ _ 3 [_, _] [] _
  refine ab_go ok_La_add 5 rfl ?_
  show ab_Z m_La_add _ _ _ 8 [_, _] [_, _] _
  refine ab_go ok_La_add 1 rfl ?_
  show ab_Z m_La_add _ _ _ 9 [_, _] [] _
  refine ab_go ok_La_add 5 rfl ?_
  show ab_Z m_La_add _ _ _ 14 [_, _] [_, _, _] _
  refine ab_is ok_La_add rfl rfl (k := 0) (by first | rfl | (simp only [LL1, LL2, LL3, LL4, LL5, LL6, LL7, LL8, LL10, LL15, LL18, LL20, LL21, LL22, LL23, LL24, LL32, LL39, LL40, LL130, LL420, pk_mul, nI_add]; done) | (simp only [LL1, LL2, LL3, LL4, LL5, LL6, LL7, LL8, LL10, LL15, LL18, LL20, LL21, LL22, LL23, LL24, LL32, LL39, LL40, LL130, LL420, pk_mul, nI_add]; congr 1; omega)) (by omega) (Nat.le_of_ble_eq_true rfl) ?_
  show ab_Z m_La_add _ _ _ 15 [_, _] [] _
  refine ab_go ok_La_add 6 rfl ?_
  show ab_Z m_La_add _ _ _ 21 [_, _] [] _
  exact ab_rV ok_La_add rfl (⟨rfl, rfl⟩)
theorem v_La_endPart_69 (x : Int32) : ab_T g_La_endPart d (0, 0) [.ref 69] (shA.take 81, (ab_up (ab_up (ab_up (ab_up s 69 3 (0)) 69 4 (0)) 70 0 x) 69 3 (1)), t, rT57 ro, X) (PV (shA.take 81, (ab_up (ab_up (ab_up (ab_up (ab_up (ab_up s 69 3 (0)) 69 4 (0)) 70 0 (x)) 69 3 (1)) 71 0 (1)) 69 4 (1)), t, rT57 ro, X)) := by
  refine ab_T_of (M := m_La_endPart) rfl rfl (Nat.le_of_ble_eq_true rfl) ?_
  show ab_Z m_La_endPart _ _ _ 0 [_] [] _
  refine ab_go ok_La_endPart 2 rfl ?_
  show ab_Z m_La_endPart _ _ _ 2 [_] [_] _
  refine ab_go ok_La_endPart 1 rfl ?_
  show ab_Z m_La_endPart _ _ _ 3 [_] [] _
  refine ab_go ok_La_endPart 5 rfl ?_
  show ab_Z m_La_endPart _ _ _ 8 [_] [_, _] _
  refine ab_go ok_La_endPart 1 rfl ?_
  show ab_Z m_La_endPart _ _ _ 9 [_] [] _
  refine ab_go ok_La_endPart 6 rfl ?_
  show ab_Z m_La_endPart _ _ _ 15 [_] [_, _, _] _
  refine ab_is ok_La_endPart rfl rfl (k := 0) (by first | rfl | (simp only [LL1, LL2, LL3, LL4, LL5, LL6, LL7, LL8, LL10, LL15, LL18, LL20, LL21, LL22, LL23, LL24, LL32, LL39, LL40, LL130, LL420, pk_mul, nI_add]; done) | (simp only [LL1, LL2, LL3, LL4, LL5, LL6, LL7, LL8, LL10, LL15, LL18, LL20, LL21, LL22, LL23, LL24, LL32, LL39, LL40, LL130, LL420, pk_mul, nI_add]; congr 1; omega)) (by omega) (Nat.le_of_ble_eq_true rfl) ?_
  show ab_Z m_La_endPart _ _ _ 16 [_] [] _
  refine ab_go ok_La_endPart 6 rfl ?_
  show ab_Z m_La_endPart _ _ _ 22 [_] [] _
  exact ab_rV ok_La_endPart rfl (⟨rfl, rfl⟩)
theorem v_La_setTo_69 (x : Int32) : ab_T g_La_setTo (d + 1) (0, 0) [.ref 69, .int x] (shA.take 81, s, t, rT57 ro, X) (PV (shA.take 81, (ab_up (ab_up (ab_up (ab_up (ab_up (ab_up s 69 3 (0)) 69 4 (0)) 70 0 (x)) 69 3 (1)) 71 0 (1)) 69 4 (1)), t, rT57 ro, X)) := by
  refine ab_T_of (M := m_La_setTo) rfl rfl (Nat.le_of_ble_eq_true rfl) ?_
  show ab_Z m_La_setTo _ _ _ 0 [_, _] [] _
  refine ab_go ok_La_setTo 1 rfl ?_
  show ab_Z m_La_setTo _ _ _ 1 [_, _] [_] _
  refine ab_cl ok_La_setTo rfl [_] [] rfl ⟨_, _, rfl, rfl, Or.inl ⟨_, _, rfl, rfl⟩⟩ (Nat.le_of_ble_eq_true rfl) (v_La_clear_69 d s t ro X) ?_
  rintro _ _ ⟨rfl, rfl⟩
  show ab_Z m_La_setTo _ _ _ 2 [_, _] [] _
  refine ab_go ok_La_setTo 2 rfl ?_
  show ab_Z m_La_setTo _ _ _ 4 [_, _] [_, _] _
  refine ab_cl ok_La_setTo rfl [_, _] [] rfl ⟨_, _, rfl, rfl, Or.inl ⟨_, _, rfl, rfl⟩⟩ (Nat.le_of_ble_eq_true rfl) (v_La_add_69 d s t ro X x) ?_
  rintro _ _ ⟨rfl, rfl⟩
  show ab_Z m_La_setTo _ _ _ 5 [_, _] [] _
  refine ab_go ok_La_setTo 1 rfl ?_
  show ab_Z m_La_setTo _ _ _ 6 [_, _] [_] _
  refine ab_cl ok_La_setTo rfl [_] [] rfl ⟨_, _, rfl, rfl, Or.inl ⟨_, _, rfl, rfl⟩⟩ (Nat.le_of_ble_eq_true rfl) (v_La_endPart_69 d s t ro X x) ?_
  rintro _ _ ⟨rfl, rfl⟩
  show ab_Z m_La_setTo _ _ _ 7 [_, _] [] _
  exact ab_rV ok_La_setTo rfl (⟨rfl, rfl⟩)
theorem v_La_clear_73 : ab_T g_La_clear d (0, 0) [.ref 73] (shA.take 81, s, t, rT57 ro, X) (PV (shA.take 81, (ab_up (ab_up s 73 3 (0)) 73 4 (0)), t, rT57 ro, X)) := by
  refine ab_T_of (M := m_La_clear) rfl rfl (Nat.le_of_ble_eq_true rfl) ?_
  show ab_Z m_La_clear _ _ _ 0 [_] [] _
  refine ab_go ok_La_clear 6 rfl ?_
  show ab_Z m_La_clear _ _ _ 6 [_] [] _
  exact ab_rV ok_La_clear rfl (⟨rfl, rfl⟩)
theorem v_La_add_73 (x : Int32) : ab_T g_La_add d (0, 0) [.ref 73, .int x] (shA.take 81, (ab_up (ab_up s 73 3 (0)) 73 4 (0)), t, rT57 ro, X) (PV (shA.take 81, (ab_up (ab_up (ab_up (ab_up s 73 3 (0)) 73 4 (0)) 74 0 x) 73 3 (1)), t, rT57 ro, X)) := by
  refine ab_T_of (M := m_La_add) rfl rfl (Nat.le_of_ble_eq_true rfl) ?_
  show ab_Z m_La_add _ _ _ 0 [_, _] [] _
  refine ab_go ok_La_add 2 rfl ?_
  show ab_Z m_La_add _ _ _ 2 [_, _] [_] _
  refine ab_go ok_La_add 1 rfl ?_
  show ab_Z m_La_add _ _ _ 3 [_, _] [] _
  refine ab_go ok_La_add 5 rfl ?_
  show ab_Z m_La_add _ _ _ 8 [_, _] [_, _] _
  refine ab_go ok_La_add 1 rfl ?_
  show ab_Z m_La_add _ _ _ 9 [_, _] [] _
  refine ab_go ok_La_add 5 rfl ?_
  show ab_Z m_La_add _ _ _ 14 [_, _] [_, _, _] _
  refine ab_is ok_La_add rfl rfl (k := 0) (by first | rfl | (simp only [LL1, LL2, LL3, LL4, LL5, LL6, LL7, LL8, LL10, LL15, LL18, LL20, LL21, LL22, LL23, LL24, LL32, LL39, LL40, LL130, LL420, pk_mul, nI_add]; done) | (simp only [LL1, LL2, LL3, LL4, LL5, LL6, LL7, LL8, LL10, LL15, LL18, LL20, LL21, LL22, LL23, LL24, LL32, LL39, LL40, LL130, LL420, pk_mul, nI_add]; congr 1; omega)) (by omega) (Nat.le_of_ble_eq_true rfl) ?_
  show ab_Z m_La_add _ _ _ 15 [_, _] [] _
  refine ab_go ok_La_add 6 rfl ?_
  show ab_Z m_La_add _ _ _ 21 [_, _] [] _
  exact ab_rV ok_La_add rfl (⟨rfl, rfl⟩)
theorem v_La_endPart_73 (x : Int32) : ab_T g_La_endPart d (0, 0) [.ref 73] (shA.take 81, (ab_up (ab_up (ab_up (ab_up s 73 3 (0)) 73 4 (0)) 74 0 x) 73 3 (1)), t, rT57 ro, X) (PV (shA.take 81, (ab_up (ab_up (ab_up (ab_up (ab_up (ab_up s 73 3 (0)) 73 4 (0)) 74 0 (x)) 73 3 (1)) 75 0 (1)) 73 4 (1)), t, rT57 ro, X)) := by
  refine ab_T_of (M := m_La_endPart) rfl rfl (Nat.le_of_ble_eq_true rfl) ?_
  show ab_Z m_La_endPart _ _ _ 0 [_] [] _
  refine ab_go ok_La_endPart 2 rfl ?_
  show ab_Z m_La_endPart _ _ _ 2 [_] [_] _
  refine ab_go ok_La_endPart 1 rfl ?_
  show ab_Z m_La_endPart _ _ _ 3 [_] [] _
  refine ab_go ok_La_endPart 5 rfl ?_
  show ab_Z m_La_endPart _ _ _ 8 [_] [_, _] _
  refine ab_go ok_La_endPart 1 rfl ?_
  show ab_Z m_La_endPart _ _ _ 9 [_] [] _
  refine ab_go ok_La_endPart 6 rfl ?_
  show ab_Z m_La_endPart _ _ _ 15 [_] [_, _, _] _
  refine ab_is ok_La_endPart rfl rfl (k := 0) (by first | rfl | (simp only [LL1, LL2, LL3, LL4, LL5, LL6, LL7, LL8, LL10, LL15, LL18, LL20, LL21, LL22, LL23, LL24, LL32, LL39, LL40, LL130, LL420, pk_mul, nI_add]; done) | (simp only [LL1, LL2, LL3, LL4, LL5, LL6, LL7, LL8, LL10, LL15, LL18, LL20, LL21, LL22, LL23, LL24, LL32, LL39, LL40, LL130, LL420, pk_mul, nI_add]; congr 1; omega)) (by omega) (Nat.le_of_ble_eq_true rfl) ?_
  show ab_Z m_La_endPart _ _ _ 16 [_] [] _
  refine ab_go ok_La_endPart 6 rfl ?_
  show ab_Z m_La_endPart _ _ _ 22 [_] [] _
  exact ab_rV ok_La_endPart rfl (⟨rfl, rfl⟩)
theorem v_La_setTo_73 (x : Int32) : ab_T g_La_setTo (d + 1) (0, 0) [.ref 73, .int x] (shA.take 81, s, t, rT57 ro, X) (PV (shA.take 81, (ab_up (ab_up (ab_up (ab_up (ab_up (ab_up s 73 3 (0)) 73 4 (0)) 74 0 (x)) 73 3 (1)) 75 0 (1)) 73 4 (1)), t, rT57 ro, X)) := by
  refine ab_T_of (M := m_La_setTo) rfl rfl (Nat.le_of_ble_eq_true rfl) ?_
  show ab_Z m_La_setTo _ _ _ 0 [_, _] [] _
  refine ab_go ok_La_setTo 1 rfl ?_
  show ab_Z m_La_setTo _ _ _ 1 [_, _] [_] _
  refine ab_cl ok_La_setTo rfl [_] [] rfl ⟨_, _, rfl, rfl, Or.inl ⟨_, _, rfl, rfl⟩⟩ (Nat.le_of_ble_eq_true rfl) (v_La_clear_73 d s t ro X) ?_
  rintro _ _ ⟨rfl, rfl⟩
  show ab_Z m_La_setTo _ _ _ 2 [_, _] [] _
  refine ab_go ok_La_setTo 2 rfl ?_
  show ab_Z m_La_setTo _ _ _ 4 [_, _] [_, _] _
  refine ab_cl ok_La_setTo rfl [_, _] [] rfl ⟨_, _, rfl, rfl, Or.inl ⟨_, _, rfl, rfl⟩⟩ (Nat.le_of_ble_eq_true rfl) (v_La_add_73 d s t ro X x) ?_
  rintro _ _ ⟨rfl, rfl⟩
  show ab_Z m_La_setTo _ _ _ 5 [_, _] [] _
  refine ab_go ok_La_setTo 1 rfl ?_
  show ab_Z m_La_setTo _ _ _ 6 [_, _] [_] _
  refine ab_cl ok_La_setTo rfl [_] [] rfl ⟨_, _, rfl, rfl, Or.inl ⟨_, _, rfl, rfl⟩⟩ (Nat.le_of_ble_eq_true rfl) (v_La_endPart_73 d s t ro X x) ?_
  rintro _ _ ⟨rfl, rfl⟩
  show ab_Z m_La_setTo _ _ _ 7 [_, _] [] _
  exact ab_rV ok_La_setTo rfl (⟨rfl, rfl⟩)
theorem v_La_clear_77 : ab_T g_La_clear d (0, 0) [.ref 77] (shA.take 81, s, t, rT57 ro, X) (PV (shA.take 81, (ab_up (ab_up s 77 3 (0)) 77 4 (0)), t, rT57 ro, X)) := by
  refine ab_T_of (M := m_La_clear) rfl rfl (Nat.le_of_ble_eq_true rfl) ?_
  show ab_Z m_La_clear _ _ _ 0 [_] [] _
  refine ab_go ok_La_clear 6 rfl ?_
  show ab_Z m_La_clear _ _ _ 6 [_] [] _
  exact ab_rV ok_La_clear rfl (⟨rfl, rfl⟩)
theorem v_La_add_77 (x : Int32) : ab_T g_La_add d (0, 0) [.ref 77, .int x] (shA.take 81, (ab_up (ab_up s 77 3 (0)) 77 4 (0)), t, rT57 ro, X) (PV (shA.take 81, (ab_up (ab_up (ab_up (ab_up s 77 3 (0)) 77 4 (0)) 78 0 x) 77 3 (1)), t, rT57 ro, X)) := by
  refine ab_T_of (M := m_La_add) rfl rfl (Nat.le_of_ble_eq_true rfl) ?_
  show ab_Z m_La_add _ _ _ 0 [_, _] [] _
  refine ab_go ok_La_add 2 rfl ?_
  show ab_Z m_La_add _ _ _ 2 [_, _] [_] _
  refine ab_go ok_La_add 1 rfl ?_
  show ab_Z m_La_add _ _ _ 3 [_, _] [] _
  refine ab_go ok_La_add 5 rfl ?_
  show ab_Z m_La_add _ _ _ 8 [_, _] [_, _] _
  refine ab_go ok_La_add 1 rfl ?_
  show ab_Z m_La_add _ _ _ 9 [_, _] [] _
  refine ab_go ok_La_add 5 rfl ?_
  show ab_Z m_La_add _ _ _ 14 [_, _] [_, _, _] _
  refine ab_is ok_La_add rfl rfl (k := 0) (by first | rfl | (simp only [LL1, LL2, LL3, LL4, LL5, LL6, LL7, LL8, LL10, LL15, LL18, LL20, LL21, LL22, LL23, LL24, LL32, LL39, LL40, LL130, LL420, pk_mul, nI_add]; done) | (simp only [LL1, LL2, LL3, LL4, LL5, LL6, LL7, LL8, LL10, LL15, LL18, LL20, LL21, LL22, LL23, LL24, LL32, LL39, LL40, LL130, LL420, pk_mul, nI_add]; congr 1; omega)) (by omega) (Nat.le_of_ble_eq_true rfl) ?_
  show ab_Z m_La_add _ _ _ 15 [_, _] [] _
  refine ab_go ok_La_add 6 rfl ?_
  show ab_Z m_La_add _ _ _ 21 [_, _] [] _
  exact ab_rV ok_La_add rfl (⟨rfl, rfl⟩)
theorem v_La_endPart_77 (x : Int32) : ab_T g_La_endPart d (0, 0) [.ref 77] (shA.take 81, (ab_up (ab_up (ab_up (ab_up s 77 3 (0)) 77 4 (0)) 78 0 x) 77 3 (1)), t, rT57 ro, X) (PV (shA.take 81, (ab_up (ab_up (ab_up (ab_up (ab_up (ab_up s 77 3 (0)) 77 4 (0)) 78 0 (x)) 77 3 (1)) 79 0 (1)) 77 4 (1)), t, rT57 ro, X)) := by
  refine ab_T_of (M := m_La_endPart) rfl rfl (Nat.le_of_ble_eq_true rfl) ?_
  show ab_Z m_La_endPart _ _ _ 0 [_] [] _
  refine ab_go ok_La_endPart 2 rfl ?_
  show ab_Z m_La_endPart _ _ _ 2 [_] [_] _
  refine ab_go ok_La_endPart 1 rfl ?_
  show ab_Z m_La_endPart _ _ _ 3 [_] [] _
  refine ab_go ok_La_endPart 5 rfl ?_
  show ab_Z m_La_endPart _ _ _ 8 [_] [_, _] _
  refine ab_go ok_La_endPart 1 rfl ?_
  show ab_Z m_La_endPart _ _ _ 9 [_] [] _
  refine ab_go ok_La_endPart 6 rfl ?_
  show ab_Z m_La_endPart _ _ _ 15 [_] [_, _, _] _
  refine ab_is ok_La_endPart rfl rfl (k := 0) (by first | rfl | (simp only [LL1, LL2, LL3, LL4, LL5, LL6, LL7, LL8, LL10, LL15, LL18, LL20, LL21, LL22, LL23, LL24, LL32, LL39, LL40, LL130, LL420, pk_mul, nI_add]; done) | (simp only [LL1, LL2, LL3, LL4, LL5, LL6, LL7, LL8, LL10, LL15, LL18, LL20, LL21, LL22, LL23, LL24, LL32, LL39, LL40, LL130, LL420, pk_mul, nI_add]; congr 1; omega)) (by omega) (Nat.le_of_ble_eq_true rfl) ?_
  show ab_Z m_La_endPart _ _ _ 16 [_] [] _
  refine ab_go ok_La_endPart 6 rfl ?_
  show ab_Z m_La_endPart _ _ _ 22 [_] [] _
  exact ab_rV ok_La_endPart rfl (⟨rfl, rfl⟩)
theorem v_La_setTo_77 (x : Int32) : ab_T g_La_setTo (d + 1) (0, 0) [.ref 77, .int x] (shA.take 81, s, t, rT57 ro, X) (PV (shA.take 81, (ab_up (ab_up (ab_up (ab_up (ab_up (ab_up s 77 3 (0)) 77 4 (0)) 78 0 (x)) 77 3 (1)) 79 0 (1)) 77 4 (1)), t, rT57 ro, X)) := by
  refine ab_T_of (M := m_La_setTo) rfl rfl (Nat.le_of_ble_eq_true rfl) ?_
  show ab_Z m_La_setTo _ _ _ 0 [_, _] [] _
  refine ab_go ok_La_setTo 1 rfl ?_
  show ab_Z m_La_setTo _ _ _ 1 [_, _] [_] _
  refine ab_cl ok_La_setTo rfl [_] [] rfl ⟨_, _, rfl, rfl, Or.inl ⟨_, _, rfl, rfl⟩⟩ (Nat.le_of_ble_eq_true rfl) (v_La_clear_77 d s t ro X) ?_
  rintro _ _ ⟨rfl, rfl⟩
  show ab_Z m_La_setTo _ _ _ 2 [_, _] [] _
  refine ab_go ok_La_setTo 2 rfl ?_
  show ab_Z m_La_setTo _ _ _ 4 [_, _] [_, _] _
  refine ab_cl ok_La_setTo rfl [_, _] [] rfl ⟨_, _, rfl, rfl, Or.inl ⟨_, _, rfl, rfl⟩⟩ (Nat.le_of_ble_eq_true rfl) (v_La_add_77 d s t ro X x) ?_
  rintro _ _ ⟨rfl, rfl⟩
  show ab_Z m_La_setTo _ _ _ 5 [_, _] [] _
  refine ab_go ok_La_setTo 1 rfl ?_
  show ab_Z m_La_setTo _ _ _ 6 [_, _] [_] _
  refine ab_cl ok_La_setTo rfl [_] [] rfl ⟨_, _, rfl, rfl, Or.inl ⟨_, _, rfl, rfl⟩⟩ (Nat.le_of_ble_eq_true rfl) (v_La_endPart_77 d s t ro X x) ?_
  rintro _ _ ⟨rfl, rfl⟩
  show ab_Z m_La_setTo _ _ _ 7 [_, _] [] _
  exact ab_rV ok_La_setTo rfl (⟨rfl, rfl⟩)
theorem v_Te_clear_57 : ab_T g_Te_clear (d + 2) (0, 0) [.ref 57] (shA.take 81, s, t, rT57 ro, X) (PV (shA.take 81, (ab_up (ab_up (ab_up (ab_up (ab_up (ab_up (ab_up (ab_up (ab_up (ab_up (ab_up (ab_up (ab_up (ab_up (ab_up (ab_up (ab_up (ab_up (ab_up (ab_up (ab_up (ab_up (ab_up (ab_up (ab_up (ab_up (ab_up (ab_up (ab_up s 57 11 (0)) 57 12 (0)) 57 13 (0)) 57 14 (0)) 57 15 (0)) 65 3 (0)) 65 4 (0)) 66 0 (-268)) 65 3 (1)) 67 0 (1)) 65 4 (1)) 69 3 (0)) 69 4 (0)) 70 0 (0)) 69 3 (1)) 71 0 (1)) 69 4 (1)) 73 3 (0)) 73 4 (0)) 74 0 (-271)) 73 3 (1)) 75 0 (1)) 73 4 (1)) 77 3 (0)) 77 4 (0)) 78 0 (0)) 77 3 (1)) 79 0 (1)) 77 4 (1)), t, rT57 ro, X)) := by
  refine ab_T_of (M := m_Te_clear) rfl rfl (Nat.le_of_ble_eq_true rfl) ?_
  show ab_Z m_Te_clear _ _ _ 0 [_] [] _
  refine ab_go ok_Te_clear 18 rfl ?_
  show ab_Z m_Te_clear _ _ _ 18 [_] [_, _] _
  refine ab_cl ok_Te_clear rfl [_, _] [] rfl ⟨_, _, rfl, rfl, Or.inl ⟨_, _, rfl, rfl⟩⟩ (Nat.le_of_ble_eq_true rfl) (v_La_setTo_65 d _ t ro X _) ?_
  rintro _ _ ⟨rfl, rfl⟩
  show ab_Z m_Te_clear _ _ _ 19 [_] [] _
  refine ab_go ok_Te_clear 3 rfl ?_
  show ab_Z m_Te_clear _ _ _ 22 [_] [_, _] _
  refine ab_cl ok_Te_clear rfl [_, _] [] rfl ⟨_, _, rfl, rfl, Or.inl ⟨_, _, rfl, rfl⟩⟩ (Nat.le_of_ble_eq_true rfl) (v_La_setTo_69 d _ t ro X _) ?_
  rintro _ _ ⟨rfl, rfl⟩
  show ab_Z m_Te_clear _ _ _ 23 [_] [] _
  refine ab_go ok_Te_clear 3 rfl ?_
  show ab_Z m_Te_clear _ _ _ 26 [_] [_, _] _
  refine ab_cl ok_Te_clear rfl [_, _] [] rfl ⟨_, _, rfl, rfl, Or.inl ⟨_, _, rfl, rfl⟩⟩ (Nat.le_of_ble_eq_true rfl) (v_La_setTo_73 d _ t ro X _) ?_
  rintro _ _ ⟨rfl, rfl⟩
  show ab_Z m_Te_clear _ _ _ 27 [_] [] _
  refine ab_go ok_Te_clear 3 rfl ?_
  show ab_Z m_Te_clear _ _ _ 30 [_] [_, _] _
  refine ab_cl ok_Te_clear rfl [_, _] [] rfl ⟨_, _, rfl, rfl, Or.inl ⟨_, _, rfl, rfl⟩⟩ (Nat.le_of_ble_eq_true rfl) (v_La_setTo_77 d _ t ro X _) ?_
  rintro _ _ ⟨rfl, rfl⟩
  show ab_Z m_Te_clear _ _ _ 31 [_] [] _
  exact ab_rV ok_Te_clear rfl (⟨rfl, rfl⟩)
theorem t_Te_init_57 : ab_T g_Te_init (d + 3) (23, 1803) [.ref 57] (shA.take 58, s, t, ro, X) (fun r h => r = none ∧ h = (shA.take 81, ab_up (ab_up (ab_up (ab_up (ab_up (ab_up (ab_up (ab_up (ab_up (ab_up (ab_up (ab_up (ab_up (ab_up (ab_up (ab_up (ab_up (ab_up (ab_up (ab_up (ab_up (ab_up (ab_up (ab_up (ab_up (ab_up (ab_up (ab_up (ab_up (ab_up (ab_up (ab_up (ab_up (ab_up (ab_up (ab_up (ab_up (ab_ro (ab_ro (ab_ro (ab_ro (ab_up (ab_up (ab_up (ab_ro (ab_ro (ab_ro (ab_ro (ab_up (ab_up (ab_up (ab_ro (ab_ro (ab_ro (ab_ro (ab_up (ab_up (ab_up (ab_ro (ab_ro (ab_ro (ab_ro (ab_ro (ab_ro (ab_ro (ab_ro (ab_ro (ab_ro (ab_ro s 58 (fun _ => 0)) 59 (fun _ => 0)) 60 (fun _ => 0)) 61 (fun _ => 0)) 62 (fun _ => 0)) 63 (fun _ => 0)) 64 (fun _ => 0)) 65 (fun _ => 0)) 66 (fun _ => 0)) 67 (fun _ => 0)) 68 (fun _ => 0)) 65 3 (0)) 65 4 (0)) 65 5 (0)) 69 (fun _ => 0)) 70 (fun _ => 0)) 71 (fun _ => 0)) 72 (fun _ => 0)) 69 3 (0)) 69 4 (0)) 69 5 (0)) 73 (fun _ => 0)) 74 (fun _ => 0)) 75 (fun _ => 0)) 76 (fun _ => 0)) 73 3 (0)) 73 4 (0)) 73 5 (0)) 77 (fun _ => 0)) 78 (fun _ => 0)) 79 (fun _ => 0)) 80 (fun _ => 0)) 77 3 (0)) 77 4 (0)) 77 5 (0)) 57 11 (0)) 57 12 (0)) 57 13 (0)) 57 14 (0)) 57 15 (0)) 57 11 (0)) 57 12 (0)) 57 13 (0)) 57 14 (0)) 57 15 (0)) 65 3 (0)) 65 4 (0)) 66 0 (-268)) 65 3 (1)) 67 0 (1)) 65 4 (1)) 69 3 (0)) 69 4 (0)) 70 0 (0)) 69 3 (1)) 71 0 (1)) 69 4 (1)) 73 3 (0)) 73 4 (0)) 74 0 (-271)) 73 3 (1)) 75 0 (1)) 73 4 (1)) 77 3 (0)) 77 4 (0)) 78 0 (0)) 77 3 (1)) 79 0 (1)) 77 4 (1), ab_ro (ab_ro (ab_ro (ab_ro (ab_ro (ab_ro (ab_ro (ab_ro (ab_ro (ab_ro (ab_ro (ab_ro (ab_ro (ab_ro (ab_ro (ab_ro (ab_ro (ab_ro (ab_ro (ab_ro (ab_ro (ab_ro (ab_ro t 58 (fun _ => 0)) 59 (fun _ => 0)) 60 (fun _ => 0)) 61 (fun _ => 0)) 62 (fun _ => 0)) 63 (fun _ => 0)) 64 (fun _ => 0)) 65 (fun _ => 0)) 66 (fun _ => 0)) 67 (fun _ => 0)) 68 (fun _ => 0)) 69 (fun _ => 0)) 70 (fun _ => 0)) 71 (fun _ => 0)) 72 (fun _ => 0)) 73 (fun _ => 0)) 74 (fun _ => 0)) 75 (fun _ => 0)) 76 (fun _ => 0)) 77 (fun _ => 0)) 78 (fun _ => 0)) 79 (fun _ => 0)) 80 (fun _ => 0), ab_up (ab_up (ab_ro (ab_up (ab_ro (ab_up (ab_ro (ab_ro (ab_up (ab_up (ab_ro (ab_up (ab_ro (ab_up (ab_ro (ab_ro (ab_up (ab_up (ab_ro (ab_up (ab_ro (ab_up (ab_ro (ab_ro (ab_up (ab_up (ab_ro (ab_up (ab_ro (ab_up (ab_ro (ab_ro (ab_up (ab_ro (ab_up (ab_ro (ab_up (ab_ro (ab_up (ab_ro (ab_up (ab_ro (ab_up (ab_ro (ab_up (ab_ro ro 58 (fun _ => .null)) 57 0 (.ref 58)) 59 (fun _ => .null)) 57 1 (.ref 59)) 60 (fun _ => .null)) 57 2 (.ref 60)) 61 (fun _ => .null)) 57 3 (.ref 61)) 62 (fun _ => .null)) 57 4 (.ref 62)) 63 (fun _ => .null)) 57 5 (.ref 63)) 64 (fun _ => .null)) 57 6 (.ref 64)) 65 (fun _ => .null)) 66 (fun _ => .null)) 65 0 (.ref 66)) 67 (fun _ => .null)) 65 1 (.ref 67)) 68 (fun _ => .null)) 65 2 (.ref 68)) 57 7 (.ref 65)) 69 (fun _ => .null)) 70 (fun _ => .null)) 69 0 (.ref 70)) 71 (fun _ => .null)) 69 1 (.ref 71)) 72 (fun _ => .null)) 69 2 (.ref 72)) 57 8 (.ref 69)) 73 (fun _ => .null)) 74 (fun _ => .null)) 73 0 (.ref 74)) 75 (fun _ => .null)) 73 1 (.ref 75)) 76 (fun _ => .null)) 73 2 (.ref 76)) 57 9 (.ref 73)) 77 (fun _ => .null)) 78 (fun _ => .null)) 77 0 (.ref 78)) 79 (fun _ => .null)) 77 1 (.ref 79)) 80 (fun _ => .null)) 77 2 (.ref 80)) 57 10 (.ref 77), X)) := by
  refine ab_T_of (M := m_Te_init) rfl rfl (Nat.le_of_ble_eq_true rfl) ?_
  show ab_Z m_Te_init _ _ _ 0 [_] [] _
  refine ab_go ok_Te_init 4 rfl ?_
  show ab_Z m_Te_init _ _ _ 4 [_] [_, _] _
  refine ab_nwL ok_Te_init (b' := (22, 1798)) rfl (show (5 : Int32) = nI 5 from rfl) (by decide) (n := 58) rfl rfl (by decide) rfl rfl ?_
  show ab_Z m_Te_init _ _ _ 5 [_] [_, _] (shA.take 59, _, _, _, _)
  refine ab_pr ok_Te_init rfl rfl (by decide) (by decide) ?_
  show ab_Z m_Te_init _ _ _ 6 [_] [] (shA.take 59, _, _, _, _)
  refine ab_go ok_Te_init 2 rfl ?_
  show ab_Z m_Te_init _ _ _ 8 [_] [_, _] _
  refine ab_nwI ok_Te_init (b' := (21, 1793)) rfl (show (5 : Int32) = nI 5 from rfl) (by decide) (n := 59) rfl rfl (by decide) rfl rfl ?_
  show ab_Z m_Te_init _ _ _ 9 [_] [_, _] (shA.take 60, _, _, _, _)
  refine ab_pr ok_Te_init rfl rfl (by decide) (by decide) ?_
  show ab_Z m_Te_init _ _ _ 10 [_] [] (shA.take 60, _, _, _, _)
  refine ab_go ok_Te_init 2 rfl ?_
  show ab_Z m_Te_init _ _ _ 12 [_] [_, _] _
  refine ab_nwI ok_Te_init (b' := (20, 1778)) rfl (show (15 : Int32) = nI 15 from rfl) (by decide) (n := 60) rfl rfl (by decide) rfl rfl ?_
  show ab_Z m_Te_init _ _ _ 13 [_] [_, _] (shA.take 61, _, _, _, _)
  refine ab_pr ok_Te_init rfl rfl (by decide) (by decide) ?_
  show ab_Z m_Te_init _ _ _ 14 [_] [] (shA.take 61, _, _, _, _)
  refine ab_go ok_Te_init 2 rfl ?_
  show ab_Z m_Te_init _ _ _ 16 [_] [_, _] _
  refine ab_nwL ok_Te_init (b' := (19, 1772)) rfl (show (6 : Int32) = nI 6 from rfl) (by decide) (n := 61) rfl rfl (by decide) rfl rfl ?_
  show ab_Z m_Te_init _ _ _ 17 [_] [_, _] (shA.take 62, _, _, _, _)
  refine ab_pr ok_Te_init rfl rfl (by decide) (by decide) ?_
  show ab_Z m_Te_init _ _ _ 18 [_] [] (shA.take 62, _, _, _, _)
  refine ab_go ok_Te_init 2 rfl ?_
  show ab_Z m_Te_init _ _ _ 20 [_] [_, _] _
  refine ab_nwI ok_Te_init (b' := (18, 1766)) rfl (show (6 : Int32) = nI 6 from rfl) (by decide) (n := 62) rfl rfl (by decide) rfl rfl ?_
  show ab_Z m_Te_init _ _ _ 21 [_] [_, _] (shA.take 63, _, _, _, _)
  refine ab_pr ok_Te_init rfl rfl (by decide) (by decide) ?_
  show ab_Z m_Te_init _ _ _ 22 [_] [] (shA.take 63, _, _, _, _)
  refine ab_go ok_Te_init 2 rfl ?_
  show ab_Z m_Te_init _ _ _ 24 [_] [_, _] _
  refine ab_nwI ok_Te_init (b' := (17, 1748)) rfl (show (18 : Int32) = nI 18 from rfl) (by decide) (n := 63) rfl rfl (by decide) rfl rfl ?_
  show ab_Z m_Te_init _ _ _ 25 [_] [_, _] (shA.take 64, _, _, _, _)
  refine ab_pr ok_Te_init rfl rfl (by decide) (by decide) ?_
  show ab_Z m_Te_init _ _ _ 26 [_] [] (shA.take 64, _, _, _, _)
  refine ab_go ok_Te_init 2 rfl ?_
  show ab_Z m_Te_init _ _ _ 28 [_] [_, _] _
  refine ab_nwI ok_Te_init (b' := (16, 1736)) rfl (show (12 : Int32) = nI 12 from rfl) (by decide) (n := 64) rfl rfl (by decide) rfl rfl ?_
  show ab_Z m_Te_init _ _ _ 29 [_] [_, _] (shA.take 65, _, _, _, _)
  refine ab_pr ok_Te_init rfl rfl (by decide) (by decide) ?_
  show ab_Z m_Te_init _ _ _ 30 [_] [] (shA.take 65, _, _, _, _)
  refine ab_go ok_Te_init 1 rfl ?_
  show ab_Z m_Te_init _ _ _ 31 [_] [_] _
  refine ab_nw ok_Te_init (b' := (15, 1730)) rfl (n := 65) rfl rfl (by decide) rfl rfl ?_
  show ab_Z m_Te_init _ _ _ 32 [_] [_, _] (shA.take 66, _, _, _, _)
  refine ab_go ok_Te_init 1 rfl ?_
  show ab_Z m_Te_init _ _ _ 33 [_] [_, _, _] _
  refine ab_clm ok_Te_init (b' := (12, 1302)) (c := (3, 428)) rfl [_] [_, _] rfl ⟨_, _, rfl, rfl, Or.inl ⟨_, _, rfl, rfl⟩⟩ (Nat.le_of_ble_eq_true rfl) (n := 66) rfl rfl rfl rfl (t_La_init_65 (d + 2) _ _ _ X) ?_
  rintro _ _ ⟨rfl, rfl⟩
  show ab_Z m_Te_init _ _ _ 34 [_] [_, _] (shA.take 69, _, _, _, _)
  refine ab_pr ok_Te_init rfl rfl (by decide) (by decide) ?_
  show ab_Z m_Te_init _ _ _ 35 [_] [] (shA.take 69, _, _, _, _)
  refine ab_go ok_Te_init 1 rfl ?_
  show ab_Z m_Te_init _ _ _ 36 [_] [_] _
  refine ab_nw ok_Te_init (b' := (11, 1296)) rfl (n := 69) rfl rfl (by decide) rfl rfl ?_
  show ab_Z m_Te_init _ _ _ 37 [_] [_, _] (shA.take 70, _, _, _, _)
  refine ab_go ok_Te_init 1 rfl ?_
  show ab_Z m_Te_init _ _ _ 38 [_] [_, _, _] _
  refine ab_clm ok_Te_init (b' := (8, 868)) (c := (3, 428)) rfl [_] [_, _] rfl ⟨_, _, rfl, rfl, Or.inl ⟨_, _, rfl, rfl⟩⟩ (Nat.le_of_ble_eq_true rfl) (n := 70) rfl rfl rfl rfl (t_La_init_69 (d + 2) _ _ _ X) ?_
  rintro _ _ ⟨rfl, rfl⟩
  show ab_Z m_Te_init _ _ _ 39 [_] [_, _] (shA.take 73, _, _, _, _)
  refine ab_pr ok_Te_init rfl rfl (by decide) (by decide) ?_
  show ab_Z m_Te_init _ _ _ 40 [_] [] (shA.take 73, _, _, _, _)
  refine ab_go ok_Te_init 1 rfl ?_
  show ab_Z m_Te_init _ _ _ 41 [_] [_] _
  refine ab_nw ok_Te_init (b' := (7, 862)) rfl (n := 73) rfl rfl (by decide) rfl rfl ?_
  show ab_Z m_Te_init _ _ _ 42 [_] [_, _] (shA.take 74, _, _, _, _)
  refine ab_go ok_Te_init 1 rfl ?_
  show ab_Z m_Te_init _ _ _ 43 [_] [_, _, _] _
  refine ab_clm ok_Te_init (b' := (4, 434)) (c := (3, 428)) rfl [_] [_, _] rfl ⟨_, _, rfl, rfl, Or.inl ⟨_, _, rfl, rfl⟩⟩ (Nat.le_of_ble_eq_true rfl) (n := 74) rfl rfl rfl rfl (t_La_init_73 (d + 2) _ _ _ X) ?_
  rintro _ _ ⟨rfl, rfl⟩
  show ab_Z m_Te_init _ _ _ 44 [_] [_, _] (shA.take 77, _, _, _, _)
  refine ab_pr ok_Te_init rfl rfl (by decide) (by decide) ?_
  show ab_Z m_Te_init _ _ _ 45 [_] [] (shA.take 77, _, _, _, _)
  refine ab_go ok_Te_init 1 rfl ?_
  show ab_Z m_Te_init _ _ _ 46 [_] [_] _
  refine ab_nw ok_Te_init (b' := (3, 428)) rfl (n := 77) rfl rfl (by decide) rfl rfl ?_
  show ab_Z m_Te_init _ _ _ 47 [_] [_, _] (shA.take 78, _, _, _, _)
  refine ab_go ok_Te_init 1 rfl ?_
  show ab_Z m_Te_init _ _ _ 48 [_] [_, _, _] _
  refine ab_clm ok_Te_init (b' := (0, 0)) (c := (3, 428)) rfl [_] [_, _] rfl ⟨_, _, rfl, rfl, Or.inl ⟨_, _, rfl, rfl⟩⟩ (Nat.le_of_ble_eq_true rfl) (n := 78) rfl rfl rfl rfl (t_La_init_77 (d + 2) _ _ _ X) ?_
  rintro _ _ ⟨rfl, rfl⟩
  show ab_Z m_Te_init _ _ _ 49 [_] [_, _] (shA.take 81, _, _, _, _)
  refine ab_pr ok_Te_init rfl rfl (by decide) (by decide) ?_
  show ab_Z m_Te_init _ _ _ 50 [_] [] (shA.take 81, _, _, _, _)
  refine ab_go ok_Te_init 16 rfl ?_
  show ab_Z m_Te_init _ _ _ 66 [_] [_] _
  refine ab_clm ok_Te_init (b' := (0, 0)) (c := (0, 0)) rfl [_] [] rfl ⟨_, _, rfl, rfl, Or.inl ⟨_, _, rfl, rfl⟩⟩ (Nat.le_of_ble_eq_true rfl) (n := 81) rfl rfl rfl rfl (v_Te_clear_57 d _ _ ro X) ?_
  rintro _ _ ⟨rfl, rfl⟩
  show ab_Z m_Te_init _ _ _ 67 [_] [] (shA.take 81, _, _, _, _)
  exact ab_rV ok_Te_init rfl (⟨rfl, rfl⟩)
end
section
variable (d : Nat) (s : Nat → Nat → Int32) (t : Nat → Nat → Int64) (ro : Nat → Nat → Value) (X : Nat × (Nat → Int32))
theorem t_Ha_init_9 : ab_T g_Ha_init (d + 4) (28, 1873) [.ref 9] (shA.take 10, s, t, ro, X) (fun r h => r = none ∧ h = (shA.take 38, ab_up (ab_up (ab_up (ab_up (ab_up (ab_up (ab_up (ab_up (ab_up (ab_up (ab_up (ab_up (ab_up (ab_up (ab_up (ab_up (ab_up (ab_up (ab_up (ab_up (ab_up (ab_up (ab_up (ab_up (ab_up (ab_up (ab_up (ab_up (ab_up (ab_up (ab_up (ab_up (ab_up (ab_up (ab_up (ab_up (ab_up (ab_ro (ab_ro (ab_ro (ab_ro (ab_up (ab_up (ab_up (ab_ro (ab_ro (ab_ro (ab_ro (ab_up (ab_up (ab_up (ab_ro (ab_ro (ab_ro (ab_ro (ab_up (ab_up (ab_up (ab_ro (ab_ro (ab_ro (ab_ro (ab_ro (ab_ro (ab_ro (ab_ro (ab_ro (ab_ro (ab_ro (ab_ro (ab_ro (ab_ro (ab_up (ab_ro (ab_ro s 10 (fun _ => 0)) 11 (fun _ => 0)) 10 1 (0)) 12 (fun _ => 0)) 13 (fun _ => 0)) 14 (fun _ => 0)) 15 (fun _ => 0)) 16 (fun _ => 0)) 17 (fun _ => 0)) 18 (fun _ => 0)) 19 (fun _ => 0)) 20 (fun _ => 0)) 21 (fun _ => 0)) 22 (fun _ => 0)) 23 (fun _ => 0)) 24 (fun _ => 0)) 25 (fun _ => 0)) 22 3 (0)) 22 4 (0)) 22 5 (0)) 26 (fun _ => 0)) 27 (fun _ => 0)) 28 (fun _ => 0)) 29 (fun _ => 0)) 26 3 (0)) 26 4 (0)) 26 5 (0)) 30 (fun _ => 0)) 31 (fun _ => 0)) 32 (fun _ => 0)) 33 (fun _ => 0)) 30 3 (0)) 30 4 (0)) 30 5 (0)) 34 (fun _ => 0)) 35 (fun _ => 0)) 36 (fun _ => 0)) 37 (fun _ => 0)) 34 3 (0)) 34 4 (0)) 34 5 (0)) 14 11 (0)) 14 12 (0)) 14 13 (0)) 14 14 (0)) 14 15 (0)) 14 11 (0)) 14 12 (0)) 14 13 (0)) 14 14 (0)) 14 15 (0)) 22 3 (0)) 22 4 (0)) 23 0 (-268)) 22 3 (1)) 24 0 (1)) 22 4 (1)) 26 3 (0)) 26 4 (0)) 27 0 (0)) 26 3 (1)) 28 0 (1)) 26 4 (1)) 30 3 (0)) 30 4 (0)) 31 0 (-271)) 30 3 (1)) 32 0 (1)) 30 4 (1)) 34 3 (0)) 34 4 (0)) 35 0 (0)) 34 3 (1)) 36 0 (1)) 34 4 (1), ab_ro (ab_ro (ab_ro (ab_ro (ab_ro (ab_ro (ab_ro (ab_ro (ab_ro (ab_ro (ab_ro (ab_ro (ab_ro (ab_ro (ab_ro (ab_ro (ab_ro (ab_ro (ab_ro (ab_ro (ab_ro (ab_ro (ab_ro (ab_ro (ab_ro (ab_ro (ab_ro (ab_ro t 10 (fun _ => 0)) 11 (fun _ => 0)) 12 (fun _ => 0)) 13 (fun _ => 0)) 14 (fun _ => 0)) 15 (fun _ => 0)) 16 (fun _ => 0)) 17 (fun _ => 0)) 18 (fun _ => 0)) 19 (fun _ => 0)) 20 (fun _ => 0)) 21 (fun _ => 0)) 22 (fun _ => 0)) 23 (fun _ => 0)) 24 (fun _ => 0)) 25 (fun _ => 0)) 26 (fun _ => 0)) 27 (fun _ => 0)) 28 (fun _ => 0)) 29 (fun _ => 0)) 30 (fun _ => 0)) 31 (fun _ => 0)) 32 (fun _ => 0)) 33 (fun _ => 0)) 34 (fun _ => 0)) 35 (fun _ => 0)) 36 (fun _ => 0)) 37 (fun _ => 0), ab_up (ab_up (ab_up (ab_ro (ab_up (ab_ro (ab_up (ab_ro (ab_ro (ab_up (ab_up (ab_ro (ab_up (ab_ro (ab_up (ab_ro (ab_ro (ab_up (ab_up (ab_ro (ab_up (ab_ro (ab_up (ab_ro (ab_ro (ab_up (ab_up (ab_ro (ab_up (ab_ro (ab_up (ab_ro (ab_ro (ab_up (ab_ro (ab_up (ab_ro (ab_up (ab_ro (ab_up (ab_ro (ab_up (ab_ro (ab_up (ab_ro (ab_up (ab_ro (ab_ro (ab_up (ab_ro (ab_up (ab_ro (ab_up (ab_up (ab_ro (ab_ro ro 10 (fun _ => .null)) 11 (fun _ => .null)) 10 0 (.ref 11)) 9 0 (.ref 10)) 12 (fun _ => .null)) 9 1 (.ref 12)) 13 (fun _ => .null)) 9 2 (.ref 13)) 14 (fun _ => .null)) 15 (fun _ => .null)) 14 0 (.ref 15)) 16 (fun _ => .null)) 14 1 (.ref 16)) 17 (fun _ => .null)) 14 2 (.ref 17)) 18 (fun _ => .null)) 14 3 (.ref 18)) 19 (fun _ => .null)) 14 4 (.ref 19)) 20 (fun _ => .null)) 14 5 (.ref 20)) 21 (fun _ => .null)) 14 6 (.ref 21)) 22 (fun _ => .null)) 23 (fun _ => .null)) 22 0 (.ref 23)) 24 (fun _ => .null)) 22 1 (.ref 24)) 25 (fun _ => .null)) 22 2 (.ref 25)) 14 7 (.ref 22)) 26 (fun _ => .null)) 27 (fun _ => .null)) 26 0 (.ref 27)) 28 (fun _ => .null)) 26 1 (.ref 28)) 29 (fun _ => .null)) 26 2 (.ref 29)) 14 8 (.ref 26)) 30 (fun _ => .null)) 31 (fun _ => .null)) 30 0 (.ref 31)) 32 (fun _ => .null)) 30 1 (.ref 32)) 33 (fun _ => .null)) 30 2 (.ref 33)) 14 9 (.ref 30)) 34 (fun _ => .null)) 35 (fun _ => .null)) 34 0 (.ref 35)) 36 (fun _ => .null)) 34 1 (.ref 36)) 37 (fun _ => .null)) 34 2 (.ref 37)) 14 10 (.ref 34)) 9 3 (.ref 14), X)) := by
  refine ab_T_of (M := m_Ha_init) rfl rfl (Nat.le_of_ble_eq_true rfl) ?_
  show ab_Z m_Ha_init _ _ _ 0 [_] [] _
  refine ab_go ok_Ha_init 3 rfl ?_
  show ab_Z m_Ha_init _ _ _ 3 [_] [_] _
  refine ab_nw ok_Ha_init (b' := (27, 1871)) rfl (n := 10) rfl rfl (by decide) rfl rfl ?_
  show ab_Z m_Ha_init _ _ _ 4 [_] [_, _] (shA.take 11, _, _, _, _)
  refine ab_go ok_Ha_init 1 rfl ?_
  show ab_Z m_Ha_init _ _ _ 5 [_] [_, _, _] _
  refine ab_clm ok_Ha_init (b' := (26, 1831)) (c := (1, 40)) rfl [_] [_, _] rfl ⟨_, _, rfl, rfl, Or.inl ⟨_, _, rfl, rfl⟩⟩ (Nat.le_of_ble_eq_true rfl) (n := 11) rfl rfl rfl rfl (t_Sc_init_10 (d + 3) _ _ _ X) ?_
  rintro _ _ ⟨rfl, rfl⟩
  show ab_Z m_Ha_init _ _ _ 6 [_] [_, _] (shA.take 12, _, _, _, _)
  refine ab_pr ok_Ha_init rfl rfl (by decide) (by decide) ?_
  show ab_Z m_Ha_init _ _ _ 7 [_] [] (shA.take 12, _, _, _, _)
  refine ab_go ok_Ha_init 2 rfl ?_
  show ab_Z m_Ha_init _ _ _ 9 [_] [_, _] _
  refine ab_nwI ok_Ha_init (b' := (25, 1822)) rfl (show (9 : Int32) = nI 9 from rfl) (by decide) (n := 12) rfl rfl (by decide) rfl rfl ?_
  show ab_Z m_Ha_init _ _ _ 10 [_] [_, _] (shA.take 13, _, _, _, _)
  refine ab_pr ok_Ha_init rfl rfl (by decide) (by decide) ?_
  show ab_Z m_Ha_init _ _ _ 11 [_] [] (shA.take 13, _, _, _, _)
  refine ab_go ok_Ha_init 2 rfl ?_
  show ab_Z m_Ha_init _ _ _ 13 [_] [_, _] _
  refine ab_nwI ok_Ha_init (b' := (24, 1819)) rfl (show (3 : Int32) = nI 3 from rfl) (by decide) (n := 13) rfl rfl (by decide) rfl rfl ?_
  show ab_Z m_Ha_init _ _ _ 14 [_] [_, _] (shA.take 14, _, _, _, _)
  refine ab_pr ok_Ha_init rfl rfl (by decide) (by decide) ?_
  show ab_Z m_Ha_init _ _ _ 15 [_] [] (shA.take 14, _, _, _, _)
  refine ab_go ok_Ha_init 1 rfl ?_
  show ab_Z m_Ha_init _ _ _ 16 [_] [_] _
  refine ab_nw ok_Ha_init (b' := (23, 1803)) rfl (n := 14) rfl rfl (by decide) rfl rfl ?_
  show ab_Z m_Ha_init _ _ _ 17 [_] [_, _] (shA.take 15, _, _, _, _)
  refine ab_go ok_Ha_init 1 rfl ?_
  show ab_Z m_Ha_init _ _ _ 18 [_] [_, _, _] _
  refine ab_clm ok_Ha_init (b' := (0, 0)) (c := (23, 1803)) rfl [_] [_, _] rfl ⟨_, _, rfl, rfl, Or.inl ⟨_, _, rfl, rfl⟩⟩ (Nat.le_of_ble_eq_true rfl) (n := 15) rfl rfl rfl rfl (t_Te_init_14 d _ _ _ X) ?_
  rintro _ _ ⟨rfl, rfl⟩
  show ab_Z m_Ha_init _ _ _ 19 [_] [_, _] (shA.take 38, _, _, _, _)
  refine ab_pr ok_Ha_init rfl rfl (by decide) (by decide) ?_
  show ab_Z m_Ha_init _ _ _ 20 [_] [] (shA.take 38, _, _, _, _)
  exact ab_rV ok_Ha_init rfl (⟨rfl, rfl⟩)
theorem t_SF_init_0 (hv : ro 9006 0 = .null ∨ ∃ a, ro 9006 0 = .ref a) : ab_T g_SF_init (d + 5) (80, 9713) [.ref 0] (shA.take 1, s, t, ro, X) (fun r h => r = none ∧ ∃ T, h = (shA.take 81, ab_up (ab_up (ab_up (ab_up (ab_up (ab_up (ab_up (ab_up (ab_up (ab_up (ab_up (ab_up (ab_up (ab_up (ab_up (ab_up (ab_up (ab_up (ab_up (ab_up (ab_up (ab_up (ab_up (ab_up (ab_up (ab_up (ab_up (ab_up (ab_up (ab_up (ab_up (ab_up (ab_up (ab_up (ab_up (ab_up (ab_up (ab_up (ab_ro (ab_ro (ab_ro (ab_ro (ab_up (ab_up (ab_up (ab_ro (ab_ro (ab_ro (ab_ro (ab_up (ab_up (ab_up (ab_ro (ab_ro (ab_ro (ab_ro (ab_up (ab_up (ab_up (ab_ro (ab_ro (ab_ro (ab_ro (ab_ro (ab_ro (ab_ro (ab_ro (ab_ro (ab_ro (ab_ro (ab_ro (ab_ro (ab_ro (ab_ro (ab_ro (ab_ro (ab_up (ab_ro (ab_ro (ab_ro (ab_ro (ab_ro (ab_ro (ab_ro (ab_up (ab_ro (ab_ro (ab_ro (ab_ro (ab_up (ab_up (ab_up (ab_ro (ab_ro (ab_ro (ab_up (ab_up (ab_up (ab_up (ab_up (ab_up (ab_up (ab_up (ab_up (ab_up (ab_up (ab_up (ab_up (ab_up (ab_up (ab_up (ab_up (ab_up (ab_up (ab_up (ab_up (ab_up (ab_up (ab_up (ab_up (ab_up (ab_up (ab_up (ab_up (ab_up (ab_up (ab_up (ab_up (ab_up (ab_up (ab_up (ab_up (ab_ro (ab_ro (ab_ro (ab_ro (ab_up (ab_up (ab_up (ab_ro (ab_ro (ab_ro (ab_ro (ab_up (ab_up (ab_up (ab_ro (ab_ro (ab_ro (ab_ro (ab_up (ab_up (ab_up (ab_ro (ab_ro (ab_ro (ab_ro (ab_ro (ab_ro (ab_ro (ab_ro (ab_ro (ab_ro (ab_ro (ab_ro (ab_ro (ab_ro (ab_up (ab_ro (ab_ro (ab_ro (ab_up (ab_up (ab_up (ab_up (ab_up (ab_up (ab_ro (ab_up (ab_ro (ab_ro (ab_ro (ab_ro (ab_ro (ab_up (ab_ro (ab_ro s 1 (fun _ => 0)) 2 (fun _ => 0)) 1 1 (0)) 3 (fun _ => 0)) 4 (fun _ => 0)) 5 (fun _ => 0)) 6 (fun _ => 0)) 7 (fun _ => 0)) 3 4 0) 8 (fun _ => 0)) 8 1 (0)) 8 2 (0)) 8 3 (0)) 8 4 (0)) 8 5 (0)) 8 6 (-1)) 9 (fun _ => 0)) 10 (fun _ => 0)) 11 (fun _ => 0)) 10 1 (0)) 12 (fun _ => 0)) 13 (fun _ => 0)) 14 (fun _ => 0)) 15 (fun _ => 0)) 16 (fun _ => 0)) 17 (fun _ => 0)) 18 (fun _ => 0)) 19 (fun _ => 0)) 20 (fun _ => 0)) 21 (fun _ => 0)) 22 (fun _ => 0)) 23 (fun _ => 0)) 24 (fun _ => 0)) 25 (fun _ => 0)) 22 3 (0)) 22 4 (0)) 22 5 (0)) 26 (fun _ => 0)) 27 (fun _ => 0)) 28 (fun _ => 0)) 29 (fun _ => 0)) 26 3 (0)) 26 4 (0)) 26 5 (0)) 30 (fun _ => 0)) 31 (fun _ => 0)) 32 (fun _ => 0)) 33 (fun _ => 0)) 30 3 (0)) 30 4 (0)) 30 5 (0)) 34 (fun _ => 0)) 35 (fun _ => 0)) 36 (fun _ => 0)) 37 (fun _ => 0)) 34 3 (0)) 34 4 (0)) 34 5 (0)) 14 11 (0)) 14 12 (0)) 14 13 (0)) 14 14 (0)) 14 15 (0)) 14 11 (0)) 14 12 (0)) 14 13 (0)) 14 14 (0)) 14 15 (0)) 22 3 (0)) 22 4 (0)) 23 0 (-268)) 22 3 (1)) 24 0 (1)) 22 4 (1)) 26 3 (0)) 26 4 (0)) 27 0 (0)) 26 3 (1)) 28 0 (1)) 26 4 (1)) 30 3 (0)) 30 4 (0)) 31 0 (-271)) 30 3 (1)) 32 0 (1)) 30 4 (1)) 34 3 (0)) 34 4 (0)) 35 0 (0)) 34 3 (1)) 36 0 (1)) 34 4 (1)) 38 (fun _ => 0)) 39 (fun _ => 0)) 40 (fun _ => 0)) 38 2 (0)) 38 3 (0)) 38 4 (0)) 41 (fun _ => 0)) 42 (fun _ => 0)) 43 (fun _ => 0)) 44 (fun _ => 0)) 41 3 (0)) 45 (fun _ => 0)) 46 (fun _ => 0)) 47 (fun _ => 0)) 48 (fun _ => 0)) 49 (fun _ => 0)) 50 (fun _ => 0)) 51 (fun _ => 0)) 45 7 (-1)) 52 (fun _ => 0)) 53 (fun _ => 0)) 54 (fun _ => 0)) 55 (fun _ => 0)) 56 (fun _ => 0)) 57 (fun _ => 0)) 58 (fun _ => 0)) 59 (fun _ => 0)) 60 (fun _ => 0)) 61 (fun _ => 0)) 62 (fun _ => 0)) 63 (fun _ => 0)) 64 (fun _ => 0)) 65 (fun _ => 0)) 66 (fun _ => 0)) 67 (fun _ => 0)) 68 (fun _ => 0)) 65 3 (0)) 65 4 (0)) 65 5 (0)) 69 (fun _ => 0)) 70 (fun _ => 0)) 71 (fun _ => 0)) 72 (fun _ => 0)) 69 3 (0)) 69 4 (0)) 69 5 (0)) 73 (fun _ => 0)) 74 (fun _ => 0)) 75 (fun _ => 0)) 76 (fun _ => 0)) 73 3 (0)) 73 4 (0)) 73 5 (0)) 77 (fun _ => 0)) 78 (fun _ => 0)) 79 (fun _ => 0)) 80 (fun _ => 0)) 77 3 (0)) 77 4 (0)) 77 5 (0)) 57 11 (0)) 57 12 (0)) 57 13 (0)) 57 14 (0)) 57 15 (0)) 57 11 (0)) 57 12 (0)) 57 13 (0)) 57 14 (0)) 57 15 (0)) 65 3 (0)) 65 4 (0)) 66 0 (-268)) 65 3 (1)) 67 0 (1)) 65 4 (1)) 69 3 (0)) 69 4 (0)) 70 0 (0)) 69 3 (1)) 71 0 (1)) 69 4 (1)) 73 3 (0)) 73 4 (0)) 74 0 (-271)) 73 3 (1)) 75 0 (1)) 73 4 (1)) 77 3 (0)) 77 4 (0)) 78 0 (0)) 77 3 (1)) 79 0 (1)) 77 4 (1)) 0 9 (-1), ab_ro (ab_ro (ab_ro (ab_ro (ab_ro (ab_ro (ab_ro (ab_ro (ab_ro (ab_ro (ab_ro (ab_ro (ab_ro (ab_ro (ab_ro (ab_ro (ab_ro (ab_ro (ab_ro (ab_ro (ab_ro (ab_ro (ab_ro (ab_ro (ab_ro (ab_ro (ab_ro (ab_ro (ab_ro (ab_ro (ab_ro (ab_ro (ab_ro (ab_ro (ab_ro (ab_ro (ab_ro (ab_ro (ab_ro (ab_ro (ab_ro (ab_ro (ab_ro (ab_ro (ab_ro (ab_ro (ab_ro (ab_ro (ab_ro (ab_ro (ab_ro (ab_ro (ab_ro (ab_ro (ab_ro (ab_ro (ab_ro (ab_ro (ab_ro (ab_ro (ab_ro (ab_ro (ab_ro (ab_ro (ab_ro (ab_ro (ab_ro (ab_ro (ab_ro (ab_ro (ab_ro (ab_ro (ab_ro (ab_ro (ab_ro (ab_ro (ab_ro (ab_ro (ab_ro (ab_ro t 1 (fun _ => 0)) 2 (fun _ => 0)) 3 (fun _ => 0)) 4 (fun _ => 0)) 5 (fun _ => 0)) 6 (fun _ => 0)) 7 T) 8 (fun _ => 0)) 9 (fun _ => 0)) 10 (fun _ => 0)) 11 (fun _ => 0)) 12 (fun _ => 0)) 13 (fun _ => 0)) 14 (fun _ => 0)) 15 (fun _ => 0)) 16 (fun _ => 0)) 17 (fun _ => 0)) 18 (fun _ => 0)) 19 (fun _ => 0)) 20 (fun _ => 0)) 21 (fun _ => 0)) 22 (fun _ => 0)) 23 (fun _ => 0)) 24 (fun _ => 0)) 25 (fun _ => 0)) 26 (fun _ => 0)) 27 (fun _ => 0)) 28 (fun _ => 0)) 29 (fun _ => 0)) 30 (fun _ => 0)) 31 (fun _ => 0)) 32 (fun _ => 0)) 33 (fun _ => 0)) 34 (fun _ => 0)) 35 (fun _ => 0)) 36 (fun _ => 0)) 37 (fun _ => 0)) 38 (fun _ => 0)) 39 (fun _ => 0)) 40 (fun _ => 0)) 41 (fun _ => 0)) 42 (fun _ => 0)) 43 (fun _ => 0)) 44 (fun _ => 0)) 45 (fun _ => 0)) 46 (fun _ => 0)) 47 (fun _ => 0)) 48 (fun _ => 0)) 49 (fun _ => 0)) 50 (fun _ => 0)) 51 (fun _ => 0)) 52 (fun _ => 0)) 53 (fun _ => 0)) 54 (fun _ => 0)) 55 (fun _ => 0)) 56 (fun _ => 0)) 57 (fun _ => 0)) 58 (fun _ => 0)) 59 (fun _ => 0)) 60 (fun _ => 0)) 61 (fun _ => 0)) 62 (fun _ => 0)) 63 (fun _ => 0)) 64 (fun _ => 0)) 65 (fun _ => 0)) 66 (fun _ => 0)) 67 (fun _ => 0)) 68 (fun _ => 0)) 69 (fun _ => 0)) 70 (fun _ => 0)) 71 (fun _ => 0)) 72 (fun _ => 0)) 73 (fun _ => 0)) 74 (fun _ => 0)) 75 (fun _ => 0)) 76 (fun _ => 0)) 77 (fun _ => 0)) 78 (fun _ => 0)) 79 (fun _ => 0)) 80 (fun _ => 0), ab_up (ab_up (ab_up (ab_ro (ab_up (ab_ro (ab_up (ab_ro (ab_ro (ab_up (ab_up (ab_ro (ab_up (ab_ro (ab_up (ab_ro (ab_ro (ab_up (ab_up (ab_ro (ab_up (ab_ro (ab_up (ab_ro (ab_ro (ab_up (ab_up (ab_ro (ab_up (ab_ro (ab_up (ab_ro (ab_ro (ab_up (ab_ro (ab_up (ab_ro (ab_up (ab_ro (ab_up (ab_ro (ab_up (ab_ro (ab_up (ab_ro (ab_up (ab_ro (ab_ro (ab_up (ab_up (ab_up (ab_ro (ab_up (ab_ro (ab_up (ab_ro (ab_up (ab_ro (ab_ro (ab_up (ab_up (ab_up (ab_ro (ab_up (ab_ro (ab_up (ab_ro (ab_up (ab_ro (ab_up (ab_ro (ab_up (ab_ro (ab_ro (ab_up (ab_up (ab_ro (ab_up (ab_ro (ab_up (ab_ro (ab_ro (ab_up (ab_up (ab_ro (ab_up (ab_ro (ab_ro (ab_up (ab_up (ab_up (ab_up (ab_ro (ab_up (ab_ro (ab_up (ab_ro (ab_ro (ab_up (ab_up (ab_ro (ab_up (ab_ro (ab_up (ab_ro (ab_ro (ab_up (ab_up (ab_ro (ab_up (ab_ro (ab_up (ab_ro (ab_ro (ab_up (ab_up (ab_ro (ab_up (ab_ro (ab_up (ab_ro (ab_ro (ab_up (ab_ro (ab_up (ab_ro (ab_up (ab_ro (ab_up (ab_ro (ab_up (ab_ro (ab_up (ab_ro (ab_up (ab_ro (ab_ro (ab_up (ab_ro (ab_up (ab_ro (ab_up (ab_up (ab_ro (ab_ro (ab_ro (ab_up (ab_up (ab_ro (ab_up (ab_up (ab_ro (ab_up (ab_ro (ab_up (ab_ro (ab_up (ab_ro (ab_ro (ab_up (ab_up (ab_ro (ab_ro ro 1 (fun _ => .null)) 2 (fun _ => .null)) 1 0 (.ref 2)) 0 0 (.ref 1)) 3 (fun _ => .null)) 4 (fun _ => .null)) 3 0 (.ref 4)) 5 (fun _ => .null)) 3 1 (.ref 5)) 6 (fun _ => .null)) 3 2 (.ref 6)) 7 (fun _ => .null)) 3 3 (.ref 7)) 0 1 (.ref 3)) 8 (fun _ => .null)) 8 0 (.ref 3)) 0 2 (.ref 8)) 9 (fun _ => .null)) 10 (fun _ => .null)) 11 (fun _ => .null)) 10 0 (.ref 11)) 9 0 (.ref 10)) 12 (fun _ => .null)) 9 1 (.ref 12)) 13 (fun _ => .null)) 9 2 (.ref 13)) 14 (fun _ => .null)) 15 (fun _ => .null)) 14 0 (.ref 15)) 16 (fun _ => .null)) 14 1 (.ref 16)) 17 (fun _ => .null)) 14 2 (.ref 17)) 18 (fun _ => .null)) 14 3 (.ref 18)) 19 (fun _ => .null)) 14 4 (.ref 19)) 20 (fun _ => .null)) 14 5 (.ref 20)) 21 (fun _ => .null)) 14 6 (.ref 21)) 22 (fun _ => .null)) 23 (fun _ => .null)) 22 0 (.ref 23)) 24 (fun _ => .null)) 22 1 (.ref 24)) 25 (fun _ => .null)) 22 2 (.ref 25)) 14 7 (.ref 22)) 26 (fun _ => .null)) 27 (fun _ => .null)) 26 0 (.ref 27)) 28 (fun _ => .null)) 26 1 (.ref 28)) 29 (fun _ => .null)) 26 2 (.ref 29)) 14 8 (.ref 26)) 30 (fun _ => .null)) 31 (fun _ => .null)) 30 0 (.ref 31)) 32 (fun _ => .null)) 30 1 (.ref 32)) 33 (fun _ => .null)) 30 2 (.ref 33)) 14 9 (.ref 30)) 34 (fun _ => .null)) 35 (fun _ => .null)) 34 0 (.ref 35)) 36 (fun _ => .null)) 34 1 (.ref 36)) 37 (fun _ => .null)) 34 2 (.ref 37)) 14 10 (.ref 34)) 9 3 (.ref 14)) 0 3 (.ref 9)) 38 (fun _ => .null)) 39 (fun _ => .null)) 38 0 (.ref 39)) 40 (fun _ => .null)) 38 1 (.ref 40)) 0 4 (.ref 38)) 41 (fun _ => .null)) 42 (fun _ => .null)) 41 0 (.ref 42)) 43 (fun _ => .null)) 41 1 (.ref 43)) 44 (fun _ => .null)) 41 2 (.ref 44)) 0 5 (.ref 41)) 45 (fun _ => .null)) 46 (fun _ => .null)) 45 1 (.ref 46)) 47 (fun _ => .null)) 45 2 (.ref 47)) 48 (fun _ => .null)) 45 3 (.ref 48)) 49 (fun _ => .null)) 45 4 (.ref 49)) 50 (fun _ => .null)) 45 5 (.ref 50)) 51 (fun _ => .null)) 45 6 (.ref 51)) 45 0 (.ref 9)) 0 6 (.ref 45)) 52 (fun _ => .null)) 53 (fun _ => .null)) 52 1 (.ref 53)) 54 (fun _ => .null)) 52 2 (.ref 54)) 55 (fun _ => .null)) 52 3 (.ref 55)) 56 (fun _ => .null)) 52 4 (.ref 56)) 52 0 (.ref 9)) 0 7 (.ref 52)) 57 (fun _ => .null)) 58 (fun _ => .null)) 57 0 (.ref 58)) 59 (fun _ => .null)) 57 1 (.ref 59)) 60 (fun _ => .null)) 57 2 (.ref 60)) 61 (fun _ => .null)) 57 3 (.ref 61)) 62 (fun _ => .null)) 57 4 (.ref 62)) 63 (fun _ => .null)) 57 5 (.ref 63)) 64 (fun _ => .null)) 57 6 (.ref 64)) 65 (fun _ => .null)) 66 (fun _ => .null)) 65 0 (.ref 66)) 67 (fun _ => .null)) 65 1 (.ref 67)) 68 (fun _ => .null)) 65 2 (.ref 68)) 57 7 (.ref 65)) 69 (fun _ => .null)) 70 (fun _ => .null)) 69 0 (.ref 70)) 71 (fun _ => .null)) 69 1 (.ref 71)) 72 (fun _ => .null)) 69 2 (.ref 72)) 57 8 (.ref 69)) 73 (fun _ => .null)) 74 (fun _ => .null)) 73 0 (.ref 74)) 75 (fun _ => .null)) 73 1 (.ref 75)) 76 (fun _ => .null)) 73 2 (.ref 76)) 57 9 (.ref 73)) 77 (fun _ => .null)) 78 (fun _ => .null)) 77 0 (.ref 78)) 79 (fun _ => .null)) 77 1 (.ref 79)) 80 (fun _ => .null)) 77 2 (.ref 80)) 57 10 (.ref 77)) 0 8 (.ref 57), X) ∧ ∀ k w, wdL[k]? = some w → T k = lN (cdL 32 w)) := by
  refine ab_T_of (M := m_SF_init) rfl rfl (Nat.le_of_ble_eq_true rfl) ?_
  show ab_Z m_SF_init _ _ _ 0 [_] [] _
  refine ab_go ok_SF_init 3 rfl ?_
  show ab_Z m_SF_init _ _ _ 3 [_] [_] _
  refine ab_nw ok_SF_init (b' := (79, 9711)) rfl (n := 1) rfl rfl (by decide) rfl rfl ?_
  show ab_Z m_SF_init _ _ _ 4 [_] [_, _] (shA.take 2, _, _, _, _)
  refine ab_go ok_SF_init 1 rfl ?_
  show ab_Z m_SF_init _ _ _ 5 [_] [_, _, _] _
  refine ab_clm ok_SF_init (b' := (78, 7711)) (c := (1, 2000)) rfl [_] [_, _] rfl ⟨_, _, rfl, rfl, Or.inl ⟨_, _, rfl, rfl⟩⟩ (Nat.le_of_ble_eq_true rfl) (n := 2) rfl rfl rfl rfl (t_Ta_init (d + 4) _ _ _ X) ?_
  rintro _ _ ⟨rfl, rfl⟩
  show ab_Z m_SF_init _ _ _ 6 [_] [_, _] (shA.take 3, _, _, _, _)
  refine ab_pr ok_SF_init rfl rfl (by decide) (by decide) ?_
  show ab_Z m_SF_init _ _ _ 7 [_] [] (shA.take 3, _, _, _, _)
  refine ab_go ok_SF_init 1 rfl ?_
  show ab_Z m_SF_init _ _ _ 8 [_] [_] _
  refine ab_nw ok_SF_init (b' := (77, 7706)) rfl (n := 3) rfl rfl (by decide) rfl rfl ?_
  show ab_Z m_SF_init _ _ _ 9 [_] [_, _] (shA.take 4, _, _, _, _)
  refine ab_go ok_SF_init 1 rfl ?_
  show ab_Z m_SF_init _ _ _ 10 [_] [_, _, _] _
  refine ab_clm ok_SF_init (b' := (73, 6482)) (c := (4, 1224)) rfl [_] [_, _] rfl ⟨_, _, rfl, rfl, Or.inl ⟨_, _, rfl, rfl⟩⟩ (Nat.le_of_ble_eq_true rfl) (n := 4) rfl rfl rfl rfl (t_To_init d _ _ _ X hv) ?_
  rintro _ _ ⟨rfl, T, rfl, hT⟩
  show ab_Z m_SF_init _ _ _ 11 [_] [_, _] (shA.take 8, _, _, _, _)
  refine ab_pr ok_SF_init rfl rfl (by decide) (by decide) ?_
  show ab_Z m_SF_init _ _ _ 12 [_] [] (shA.take 8, _, _, _, _)
  refine ab_go ok_SF_init 1 rfl ?_
  show ab_Z m_SF_init _ _ _ 13 [_] [_] _
  refine ab_nw ok_SF_init (b' := (72, 6475)) rfl (n := 8) rfl rfl (by decide) rfl rfl ?_
  show ab_Z m_SF_init _ _ _ 14 [_] [_, _] (shA.take 9, _, _, _, _)
  refine ab_go ok_SF_init 3 rfl ?_
  show ab_Z m_SF_init _ _ _ 17 [_] [_, _, _, _] _
  refine ab_clm ok_SF_init (b' := (72, 6475)) (c := (0, 0)) rfl [_, _] [_, _] rfl ⟨_, _, rfl, rfl, Or.inl ⟨_, _, rfl, rfl⟩⟩ (Nat.le_of_ble_eq_true rfl) (n := 9) rfl rfl rfl rfl (t_Re_init_8 (d + 4) _ _ _ X) ?_
  rintro _ _ ⟨rfl, rfl⟩
  show ab_Z m_SF_init _ _ _ 18 [_] [_, _] (shA.take 9, _, _, _, _)
  refine ab_pr ok_SF_init rfl rfl (by decide) (by decide) ?_
  show ab_Z m_SF_init _ _ _ 19 [_] [] (shA.take 9, _, _, _, _)
  refine ab_go ok_SF_init 1 rfl ?_
  show ab_Z m_SF_init _ _ _ 20 [_] [_] _
  refine ab_nw ok_SF_init (b' := (71, 6471)) rfl (n := 9) rfl rfl (by decide) rfl rfl ?_
  show ab_Z m_SF_init _ _ _ 21 [_] [_, _] (shA.take 10, _, _, _, _)
  refine ab_go ok_SF_init 1 rfl ?_
  show ab_Z m_SF_init _ _ _ 22 [_] [_, _, _] _
  refine ab_clm ok_SF_init (b' := (43, 4598)) (c := (28, 1873)) rfl [_] [_, _] rfl ⟨_, _, rfl, rfl, Or.inl ⟨_, _, rfl, rfl⟩⟩ (Nat.le_of_ble_eq_true rfl) (n := 10) rfl rfl rfl rfl (t_Ha_init_9 d _ _ _ X) ?_
  rintro _ _ ⟨rfl, rfl⟩
  show ab_Z m_SF_init _ _ _ 23 [_] [_, _] (shA.take 38, _, _, _, _)
  refine ab_pr ok_SF_init rfl rfl (by decide) (by decide) ?_
  show ab_Z m_SF_init _ _ _ 24 [_] [] (shA.take 38, _, _, _, _)
  refine ab_go ok_SF_init 1 rfl ?_
  show ab_Z m_SF_init _ _ _ 25 [_] [_] _
  refine ab_nw ok_SF_init (b' := (42, 4593)) rfl (n := 38) rfl rfl (by decide) rfl rfl ?_
  show ab_Z m_SF_init _ _ _ 26 [_] [_, _] (shA.take 39, _, _, _, _)
  refine ab_go ok_SF_init 1 rfl ?_
  show ab_Z m_SF_init _ _ _ 27 [_] [_, _, _] _
  refine ab_clm ok_SF_init (b' := (40, 2873)) (c := (2, 1720)) rfl [_] [_, _] rfl ⟨_, _, rfl, rfl, Or.inl ⟨_, _, rfl, rfl⟩⟩ (Nat.le_of_ble_eq_true rfl) (n := 39) rfl rfl rfl rfl (t_Me_init_38 (d + 4) _ _ _ X) ?_
  rintro _ _ ⟨rfl, rfl⟩
  show ab_Z m_SF_init _ _ _ 28 [_] [_, _] (shA.take 41, _, _, _, _)
  refine ab_pr ok_SF_init rfl rfl (by decide) (by decide) ?_
  show ab_Z m_SF_init _ _ _ 29 [_] [] (shA.take 41, _, _, _, _)
  refine ab_go ok_SF_init 1 rfl ?_
  show ab_Z m_SF_init _ _ _ 30 [_] [_] _
  refine ab_nw ok_SF_init (b' := (39, 2869)) rfl (n := 41) rfl rfl (by decide) rfl rfl ?_
  show ab_Z m_SF_init _ _ _ 31 [_] [_, _] (shA.take 42, _, _, _, _)
  refine ab_go ok_SF_init 1 rfl ?_
  show ab_Z m_SF_init _ _ _ 32 [_] [_, _, _] _
  refine ab_clm ok_SF_init (b' := (36, 2809)) (c := (3, 60)) rfl [_] [_, _] rfl ⟨_, _, rfl, rfl, Or.inl ⟨_, _, rfl, rfl⟩⟩ (Nat.le_of_ble_eq_true rfl) (n := 42) rfl rfl rfl rfl (t_Tl_init_41 (d + 4) _ _ _ X) ?_
  rintro _ _ ⟨rfl, rfl⟩
  show ab_Z m_SF_init _ _ _ 33 [_] [_, _] (shA.take 45, _, _, _, _)
  refine ab_pr ok_SF_init rfl rfl (by decide) (by decide) ?_
  show ab_Z m_SF_init _ _ _ 34 [_] [] (shA.take 45, _, _, _, _)
  refine ab_go ok_SF_init 1 rfl ?_
  show ab_Z m_SF_init _ _ _ 35 [_] [_] _
  refine ab_nw ok_SF_init (b' := (35, 2801)) rfl (n := 45) rfl rfl (by decide) rfl rfl ?_
  show ab_Z m_SF_init _ _ _ 36 [_] [_, _] (shA.take 46, _, _, _, _)
  refine ab_go ok_SF_init 3 rfl ?_
  show ab_Z m_SF_init _ _ _ 39 [_] [_, _, _, _] _
  refine ab_clm ok_SF_init (b' := (29, 2124)) (c := (6, 677)) rfl [_, _] [_, _] rfl ⟨_, _, rfl, rfl, Or.inl ⟨_, _, rfl, rfl⟩⟩ (Nat.le_of_ble_eq_true rfl) (n := 46) rfl rfl rfl rfl (t_Pl_init_45 (d + 4) _ _ _ X) ?_
  rintro _ _ ⟨rfl, rfl⟩
  show ab_Z m_SF_init _ _ _ 40 [_] [_, _] (shA.take 52, _, _, _, _)
  refine ab_pr ok_SF_init rfl rfl (by decide) (by decide) ?_
  show ab_Z m_SF_init _ _ _ 41 [_] [] (shA.take 52, _, _, _, _)
  refine ab_go ok_SF_init 1 rfl ?_
  show ab_Z m_SF_init _ _ _ 42 [_] [_] _
  refine ab_nw ok_SF_init (b' := (28, 2119)) rfl (n := 52) rfl rfl (by decide) rfl rfl ?_
  show ab_Z m_SF_init _ _ _ 43 [_] [_, _] (shA.take 53, _, _, _, _)
  refine ab_go ok_SF_init 3 rfl ?_
  show ab_Z m_SF_init _ _ _ 46 [_] [_, _, _, _] _
  refine ab_clm ok_SF_init (b' := (24, 1819)) (c := (4, 300)) rfl [_, _] [_, _] rfl ⟨_, _, rfl, rfl, Or.inl ⟨_, _, rfl, rfl⟩⟩ (Nat.le_of_ble_eq_true rfl) (n := 53) rfl rfl rfl rfl (t_Ch_init_52 (d + 4) _ _ _ X) ?_
  rintro _ _ ⟨rfl, rfl⟩
  show ab_Z m_SF_init _ _ _ 47 [_] [_, _] (shA.take 57, _, _, _, _)
  refine ab_pr ok_SF_init rfl rfl (by decide) (by decide) ?_
  show ab_Z m_SF_init _ _ _ 48 [_] [] (shA.take 57, _, _, _, _)
  refine ab_go ok_SF_init 1 rfl ?_
  show ab_Z m_SF_init _ _ _ 49 [_] [_] _
  refine ab_nw ok_SF_init (b' := (23, 1803)) rfl (n := 57) rfl rfl (by decide) rfl rfl ?_
  show ab_Z m_SF_init _ _ _ 50 [_] [_, _] (shA.take 58, _, _, _, _)
  refine ab_go ok_SF_init 1 rfl ?_
  show ab_Z m_SF_init _ _ _ 51 [_] [_, _, _] _
  refine ab_clm ok_SF_init (b' := (0, 0)) (c := (23, 1803)) rfl [_] [_, _] rfl ⟨_, _, rfl, rfl, Or.inl ⟨_, _, rfl, rfl⟩⟩ (Nat.le_of_ble_eq_true rfl) (n := 58) rfl rfl rfl rfl (t_Te_init_57 (d + 1) _ _ _ X) ?_
  rintro _ _ ⟨rfl, rfl⟩
  show ab_Z m_SF_init _ _ _ 52 [_] [_, _] (shA.take 81, _, _, _, _)
  refine ab_pr ok_SF_init rfl rfl (by decide) (by decide) ?_
  show ab_Z m_SF_init _ _ _ 53 [_] [] (shA.take 81, _, _, _, _)
  refine ab_go ok_SF_init 3 rfl ?_
  show ab_Z m_SF_init _ _ _ 56 [_] [] _
  exact ab_rV ok_SF_init rfl (⟨rfl, T, rfl, hT⟩)
end

