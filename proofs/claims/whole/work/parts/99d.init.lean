/-! straight constructors (written by gen_init.py) -/
section
variable (d : Nat) (s : Nat → Nat → Int32) (t : Nat → Nat → Int64) (ro : Nat → Nat → Value) (X : Nat × (Nat → Int32))
theorem t_Re_init_8 : ab_T g_Re_init d (0, 0) [.ref 8, .ref 3] (shA.take 9, s, t, ro, X) (fun r h => r = none ∧ h = (shA.take 9, ab_up (ab_up (ab_up (ab_up (ab_up (ab_up s 8 1 (0)) 8 2 (0)) 8 3 (0)) 8 4 (0)) 8 5 (0)) 8 6 (-1), t, ab_up ro 8 0 (.ref 3), X)) := by
  refine ab_T_of (M := m_Re_init) rfl rfl (Nat.le_of_ble_eq_true rfl) ?_
  show ab_Z m_Re_init _ _ _ 0 [_, _] [] _
  refine ab_go ok_Re_init 22 rfl ?_
  show ab_Z m_Re_init _ _ _ 22 [_, _] [_, _] _
  refine ab_pr ok_Re_init rfl rfl (by decide) (by decide) ?_
  show ab_Z m_Re_init _ _ _ 23 [_, _] [] _
  exact ab_rV ok_Re_init rfl (⟨rfl, rfl⟩)
theorem t_Sc_init_10 : ab_T g_Sc_init d (1, 40) [.ref 10] (shA.take 11, s, t, ro, X) (fun r h => r = none ∧ h = (shA.take 12, ab_up (ab_ro s 11 (fun _ => 0)) 10 1 (0), ab_ro t 11 (fun _ => 0), ab_up (ab_ro ro 11 (fun _ => .null)) 10 0 (.ref 11), X)) := by
  refine ab_T_of (M := m_Sc_init) rfl rfl (Nat.le_of_ble_eq_true rfl) ?_
  show ab_Z m_Sc_init _ _ _ 0 [_] [] _
  refine ab_go ok_Sc_init 4 rfl ?_
  show ab_Z m_Sc_init _ _ _ 4 [_] [_, _] _
  refine ab_nwI ok_Sc_init (b' := (0, 0)) rfl (show (40 : Int32) = nI 40 from rfl) (by decide) (n := 11) rfl rfl (by decide) rfl rfl ?_
  show ab_Z m_Sc_init _ _ _ 5 [_] [_, _] (shA.take 12, _, _, _, _)
  refine ab_pr ok_Sc_init rfl rfl (by decide) (by decide) ?_
  show ab_Z m_Sc_init _ _ _ 6 [_] [] _
  refine ab_go ok_Sc_init 3 rfl ?_
  show ab_Z m_Sc_init _ _ _ 9 [_] [] _
  exact ab_rV ok_Sc_init rfl (⟨rfl, rfl⟩)
theorem t_Me_init_38 : ab_T g_Me_init d (2, 1720) [.ref 38] (shA.take 39, s, t, ro, X) (fun r h => r = none ∧ h = (shA.take 41, ab_up (ab_up (ab_up (ab_ro (ab_ro s 39 (fun _ => 0)) 40 (fun _ => 0)) 38 2 (0)) 38 3 (0)) 38 4 (0), ab_ro (ab_ro t 39 (fun _ => 0)) 40 (fun _ => 0), ab_up (ab_ro (ab_up (ab_ro ro 39 (fun _ => .null)) 38 0 (.ref 39)) 40 (fun _ => .null)) 38 1 (.ref 40), X)) := by
  refine ab_T_of (M := m_Me_init) rfl rfl (Nat.le_of_ble_eq_true rfl) ?_
  show ab_Z m_Me_init _ _ _ 0 [_] [] _
  refine ab_go ok_Me_init 4 rfl ?_
  show ab_Z m_Me_init _ _ _ 4 [_] [_, _] _
  refine ab_nwI ok_Me_init (b' := (1, 120)) rfl (show (1600 : Int32) = nI 1600 from rfl) (by decide) (n := 39) rfl rfl (by decide) rfl rfl ?_
  show ab_Z m_Me_init _ _ _ 5 [_] [_, _] (shA.take 40, _, _, _, _)
  refine ab_pr ok_Me_init rfl rfl (by decide) (by decide) ?_
  show ab_Z m_Me_init _ _ _ 6 [_] [] _
  refine ab_go ok_Me_init 2 rfl ?_
  show ab_Z m_Me_init _ _ _ 8 [_] [_, _] _
  refine ab_nwI ok_Me_init (b' := (0, 0)) rfl (show (120 : Int32) = nI 120 from rfl) (by decide) (n := 40) rfl rfl (by decide) rfl rfl ?_
  show ab_Z m_Me_init _ _ _ 9 [_] [_, _] (shA.take 41, _, _, _, _)
  refine ab_pr ok_Me_init rfl rfl (by decide) (by decide) ?_
  show ab_Z m_Me_init _ _ _ 10 [_] [] _
  refine ab_go ok_Me_init 9 rfl ?_
  show ab_Z m_Me_init _ _ _ 19 [_] [] _
  exact ab_rV ok_Me_init rfl (⟨rfl, rfl⟩)
theorem t_Tl_init_41 : ab_T g_Tl_init d (3, 60) [.ref 41] (shA.take 42, s, t, ro, X) (fun r h => r = none ∧ h = (shA.take 45, ab_up (ab_ro (ab_ro (ab_ro s 42 (fun _ => 0)) 43 (fun _ => 0)) 44 (fun _ => 0)) 41 3 (0), ab_ro (ab_ro (ab_ro t 42 (fun _ => 0)) 43 (fun _ => 0)) 44 (fun _ => 0), ab_up (ab_ro (ab_up (ab_ro (ab_up (ab_ro ro 42 (fun _ => .null)) 41 0 (.ref 42)) 43 (fun _ => .null)) 41 1 (.ref 43)) 44 (fun _ => .null)) 41 2 (.ref 44), X)) := by
  refine ab_T_of (M := m_Tl_init) rfl rfl (Nat.le_of_ble_eq_true rfl) ?_
  show ab_Z m_Tl_init _ _ _ 0 [_] [] _
  refine ab_go ok_Tl_init 4 rfl ?_
  show ab_Z m_Tl_init _ _ _ 4 [_] [_, _] _
  refine ab_nwI ok_Tl_init (b' := (2, 40)) rfl (show (20 : Int32) = nI 20 from rfl) (by decide) (n := 42) rfl rfl (by decide) rfl rfl ?_
  show ab_Z m_Tl_init _ _ _ 5 [_] [_, _] (shA.take 43, _, _, _, _)
  refine ab_pr ok_Tl_init rfl rfl (by decide) (by decide) ?_
  show ab_Z m_Tl_init _ _ _ 6 [_] [] _
  refine ab_go ok_Tl_init 2 rfl ?_
  show ab_Z m_Tl_init _ _ _ 8 [_] [_, _] _
  refine ab_nwI ok_Tl_init (b' := (1, 20)) rfl (show (20 : Int32) = nI 20 from rfl) (by decide) (n := 43) rfl rfl (by decide) rfl rfl ?_
  show ab_Z m_Tl_init _ _ _ 9 [_] [_, _] (shA.take 44, _, _, _, _)
  refine ab_pr ok_Tl_init rfl rfl (by decide) (by decide) ?_
  show ab_Z m_Tl_init _ _ _ 10 [_] [] _
  refine ab_go ok_Tl_init 2 rfl ?_
  show ab_Z m_Tl_init _ _ _ 12 [_] [_, _] _
  refine ab_nwZ ok_Tl_init (b' := (0, 0)) rfl (show (20 : Int32) = nI 20 from rfl) (by decide) (n := 44) rfl rfl (by decide) rfl rfl ?_
  show ab_Z m_Tl_init _ _ _ 13 [_] [_, _] (shA.take 45, _, _, _, _)
  refine ab_pr ok_Tl_init rfl rfl (by decide) (by decide) ?_
  show ab_Z m_Tl_init _ _ _ 14 [_] [] _
  refine ab_go ok_Tl_init 3 rfl ?_
  show ab_Z m_Tl_init _ _ _ 17 [_] [] _
  exact ab_rV ok_Tl_init rfl (⟨rfl, rfl⟩)
theorem t_Pl_init_45 : ab_T g_Pl_init d (6, 677) [.ref 45, .ref 9] (shA.take 46, s, t, ro, X) (fun r h => r = none ∧ h = (shA.take 52, ab_up (ab_ro (ab_ro (ab_ro (ab_ro (ab_ro (ab_ro s 46 (fun _ => 0)) 47 (fun _ => 0)) 48 (fun _ => 0)) 49 (fun _ => 0)) 50 (fun _ => 0)) 51 (fun _ => 0)) 45 7 (-1), ab_ro (ab_ro (ab_ro (ab_ro (ab_ro (ab_ro t 46 (fun _ => 0)) 47 (fun _ => 0)) 48 (fun _ => 0)) 49 (fun _ => 0)) 50 (fun _ => 0)) 51 (fun _ => 0), ab_up (ab_up (ab_ro (ab_up (ab_ro (ab_up (ab_ro (ab_up (ab_ro (ab_up (ab_ro (ab_up (ab_ro ro 46 (fun _ => .null)) 45 1 (.ref 46)) 47 (fun _ => .null)) 45 2 (.ref 47)) 48 (fun _ => .null)) 45 3 (.ref 48)) 49 (fun _ => .null)) 45 4 (.ref 49)) 50 (fun _ => .null)) 45 5 (.ref 50)) 51 (fun _ => .null)) 45 6 (.ref 51)) 45 0 (.ref 9), X)) := by
  refine ab_T_of (M := m_Pl_init) rfl rfl (Nat.le_of_ble_eq_true rfl) ?_
  show ab_Z m_Pl_init _ _ _ 0 [_, _] [] _
  refine ab_go ok_Pl_init 4 rfl ?_
  show ab_Z m_Pl_init _ _ _ 4 [_, _] [_, _] _
  refine ab_nwL ok_Pl_init (b' := (5, 672)) rfl (show (5 : Int32) = nI 5 from rfl) (by decide) (n := 46) rfl rfl (by decide) rfl rfl ?_
  show ab_Z m_Pl_init _ _ _ 5 [_, _] [_, _] (shA.take 47, _, _, _, _)
  refine ab_pr ok_Pl_init rfl rfl (by decide) (by decide) ?_
  show ab_Z m_Pl_init _ _ _ 6 [_, _] [] _
  refine ab_go ok_Pl_init 2 rfl ?_
  show ab_Z m_Pl_init _ _ _ 8 [_, _] [_, _] _
  refine ab_nwI ok_Pl_init (b' := (4, 352)) rfl (show (320 : Int32) = nI 320 from rfl) (by decide) (n := 47) rfl rfl (by decide) rfl rfl ?_
  show ab_Z m_Pl_init _ _ _ 9 [_, _] [_, _] (shA.take 48, _, _, _, _)
  refine ab_pr ok_Pl_init rfl rfl (by decide) (by decide) ?_
  show ab_Z m_Pl_init _ _ _ 10 [_, _] [] _
  refine ab_go ok_Pl_init 2 rfl ?_
  show ab_Z m_Pl_init _ _ _ 12 [_, _] [_, _] _
  refine ab_nwI ok_Pl_init (b' := (3, 160)) rfl (show (192 : Int32) = nI 192 from rfl) (by decide) (n := 48) rfl rfl (by decide) rfl rfl ?_
  show ab_Z m_Pl_init _ _ _ 13 [_, _] [_, _] (shA.take 49, _, _, _, _)
  refine ab_pr ok_Pl_init rfl rfl (by decide) (by decide) ?_
  show ab_Z m_Pl_init _ _ _ 14 [_, _] [] _
  refine ab_go ok_Pl_init 2 rfl ?_
  show ab_Z m_Pl_init _ _ _ 16 [_, _] [_, _] _
  refine ab_nwI ok_Pl_init (b' := (2, 96)) rfl (show (64 : Int32) = nI 64 from rfl) (by decide) (n := 49) rfl rfl (by decide) rfl rfl ?_
  show ab_Z m_Pl_init _ _ _ 17 [_, _] [_, _] (shA.take 50, _, _, _, _)
  refine ab_pr ok_Pl_init rfl rfl (by decide) (by decide) ?_
  show ab_Z m_Pl_init _ _ _ 18 [_, _] [] _
  refine ab_go ok_Pl_init 2 rfl ?_
  show ab_Z m_Pl_init _ _ _ 20 [_, _] [_, _] _
  refine ab_nwI ok_Pl_init (b' := (1, 32)) rfl (show (64 : Int32) = nI 64 from rfl) (by decide) (n := 50) rfl rfl (by decide) rfl rfl ?_
  show ab_Z m_Pl_init _ _ _ 21 [_, _] [_, _] (shA.take 51, _, _, _, _)
  refine ab_pr ok_Pl_init rfl rfl (by decide) (by decide) ?_
  show ab_Z m_Pl_init _ _ _ 22 [_, _] [] _
  refine ab_go ok_Pl_init 2 rfl ?_
  show ab_Z m_Pl_init _ _ _ 24 [_, _] [_, _] _
  refine ab_nwL ok_Pl_init (b' := (0, 0)) rfl (show (32 : Int32) = nI 32 from rfl) (by decide) (n := 51) rfl rfl (by decide) rfl rfl ?_
  show ab_Z m_Pl_init _ _ _ 25 [_, _] [_, _] (shA.take 52, _, _, _, _)
  refine ab_pr ok_Pl_init rfl rfl (by decide) (by decide) ?_
  show ab_Z m_Pl_init _ _ _ 26 [_, _] [] _
  refine ab_go ok_Pl_init 5 rfl ?_
  show ab_Z m_Pl_init _ _ _ 31 [_, _] [_, _] _
  refine ab_pr ok_Pl_init rfl rfl (by decide) (by decide) ?_
  show ab_Z m_Pl_init _ _ _ 32 [_, _] [] _
  exact ab_rV ok_Pl_init rfl (⟨rfl, rfl⟩)
theorem t_Ch_init_52 : ab_T g_Ch_init d (4, 300) [.ref 52, .ref 9] (shA.take 53, s, t, ro, X) (fun r h => r = none ∧ h = (shA.take 57, ab_ro (ab_ro (ab_ro (ab_ro s 53 (fun _ => 0)) 54 (fun _ => 0)) 55 (fun _ => 0)) 56 (fun _ => 0), ab_ro (ab_ro (ab_ro (ab_ro t 53 (fun _ => 0)) 54 (fun _ => 0)) 55 (fun _ => 0)) 56 (fun _ => 0), ab_up (ab_up (ab_ro (ab_up (ab_ro (ab_up (ab_ro (ab_up (ab_ro ro 53 (fun _ => .null)) 52 1 (.ref 53)) 54 (fun _ => .null)) 52 2 (.ref 54)) 55 (fun _ => .null)) 52 3 (.ref 55)) 56 (fun _ => .null)) 52 4 (.ref 56)) 52 0 (.ref 9), X)) := by
  refine ab_T_of (M := m_Ch_init) rfl rfl (Nat.le_of_ble_eq_true rfl) ?_
  show ab_Z m_Ch_init _ _ _ 0 [_, _] [] _
  refine ab_go ok_Ch_init 4 rfl ?_
  show ab_Z m_Ch_init _ _ _ 4 [_, _] [_, _] _
  refine ab_nwI ok_Ch_init (b' := (3, 294)) rfl (show (6 : Int32) = nI 6 from rfl) (by decide) (n := 53) rfl rfl (by decide) rfl rfl ?_
  show ab_Z m_Ch_init _ _ _ 5 [_, _] [_, _] (shA.take 54, _, _, _, _)
  refine ab_pr ok_Ch_init rfl rfl (by decide) (by decide) ?_
  show ab_Z m_Ch_init _ _ _ 6 [_, _] [] _
  refine ab_go ok_Ch_init 2 rfl ?_
  show ab_Z m_Ch_init _ _ _ 8 [_, _] [_, _] _
  refine ab_nwI ok_Ch_init (b' := (2, 70)) rfl (show (224 : Int32) = nI 224 from rfl) (by decide) (n := 54) rfl rfl (by decide) rfl rfl ?_
  show ab_Z m_Ch_init _ _ _ 9 [_, _] [_, _] (shA.take 55, _, _, _, _)
  refine ab_pr ok_Ch_init rfl rfl (by decide) (by decide) ?_
  show ab_Z m_Ch_init _ _ _ 10 [_, _] [] _
  refine ab_go ok_Ch_init 2 rfl ?_
  show ab_Z m_Ch_init _ _ _ 12 [_, _] [_, _] _
  refine ab_nwI ok_Ch_init (b' := (1, 64)) rfl (show (6 : Int32) = nI 6 from rfl) (by decide) (n := 55) rfl rfl (by decide) rfl rfl ?_
  show ab_Z m_Ch_init _ _ _ 13 [_, _] [_, _] (shA.take 56, _, _, _, _)
  refine ab_pr ok_Ch_init rfl rfl (by decide) (by decide) ?_
  show ab_Z m_Ch_init _ _ _ 14 [_, _] [] _
  refine ab_go ok_Ch_init 2 rfl ?_
  show ab_Z m_Ch_init _ _ _ 16 [_, _] [_, _] _
  refine ab_nwI ok_Ch_init (b' := (0, 0)) rfl (show (64 : Int32) = nI 64 from rfl) (by decide) (n := 56) rfl rfl (by decide) rfl rfl ?_
  show ab_Z m_Ch_init _ _ _ 17 [_, _] [_, _] (shA.take 57, _, _, _, _)
  refine ab_pr ok_Ch_init rfl rfl (by decide) (by decide) ?_
  show ab_Z m_Ch_init _ _ _ 18 [_, _] [] _
  refine ab_go ok_Ch_init 2 rfl ?_
  show ab_Z m_Ch_init _ _ _ 20 [_, _] [_, _] _
  refine ab_pr ok_Ch_init rfl rfl (by decide) (by decide) ?_
  show ab_Z m_Ch_init _ _ _ 21 [_, _] [] _
  exact ab_rV ok_Ch_init rfl (⟨rfl, rfl⟩)
theorem t_La_init_22 : ab_T g_La_init d (3, 428) [.ref 22] (shA.take 23, s, t, ro, X) (fun r h => r = none ∧ h = (shA.take 26, ab_up (ab_up (ab_up (ab_ro (ab_ro (ab_ro s 23 (fun _ => 0)) 24 (fun _ => 0)) 25 (fun _ => 0)) 22 3 (0)) 22 4 (0)) 22 5 (0), ab_ro (ab_ro (ab_ro t 23 (fun _ => 0)) 24 (fun _ => 0)) 25 (fun _ => 0), ab_up (ab_ro (ab_up (ab_ro (ab_up (ab_ro ro 23 (fun _ => .null)) 22 0 (.ref 23)) 24 (fun _ => .null)) 22 1 (.ref 24)) 25 (fun _ => .null)) 22 2 (.ref 25), X)) := by
  refine ab_T_of (M := m_La_init) rfl rfl (Nat.le_of_ble_eq_true rfl) ?_
  show ab_Z m_La_init _ _ _ 0 [_] [] _
  refine ab_go ok_La_init 4 rfl ?_
  show ab_Z m_La_init _ _ _ 4 [_] [_, _] _
  refine ab_nwI ok_La_init (b' := (2, 28)) rfl (show (400 : Int32) = nI 400 from rfl) (by decide) (n := 23) rfl rfl (by decide) rfl rfl ?_
  show ab_Z m_La_init _ _ _ 5 [_] [_, _] (shA.take 24, _, _, _, _)
  refine ab_pr ok_La_init rfl rfl (by decide) (by decide) ?_
  show ab_Z m_La_init _ _ _ 6 [_] [] _
  refine ab_go ok_La_init 2 rfl ?_
  show ab_Z m_La_init _ _ _ 8 [_] [_, _] _
  refine ab_nwI ok_La_init (b' := (1, 15)) rfl (show (13 : Int32) = nI 13 from rfl) (by decide) (n := 24) rfl rfl (by decide) rfl rfl ?_
  show ab_Z m_La_init _ _ _ 9 [_] [_, _] (shA.take 25, _, _, _, _)
  refine ab_pr ok_La_init rfl rfl (by decide) (by decide) ?_
  show ab_Z m_La_init _ _ _ 10 [_] [] _
  refine ab_go ok_La_init 2 rfl ?_
  show ab_Z m_La_init _ _ _ 12 [_] [_, _] _
  refine ab_nwI ok_La_init (b' := (0, 0)) rfl (show (15 : Int32) = nI 15 from rfl) (by decide) (n := 25) rfl rfl (by decide) rfl rfl ?_
  show ab_Z m_La_init _ _ _ 13 [_] [_, _] (shA.take 26, _, _, _, _)
  refine ab_pr ok_La_init rfl rfl (by decide) (by decide) ?_
  show ab_Z m_La_init _ _ _ 14 [_] [] _
  refine ab_go ok_La_init 8 rfl ?_
  show ab_Z m_La_init _ _ _ 22 [_] [_, _] _
  refine ab_go ok_La_init 1 rfl ?_
  show ab_Z m_La_init _ _ _ 23 [_] [] _
  exact ab_rV ok_La_init rfl (⟨rfl, rfl⟩)
theorem t_La_init_26 : ab_T g_La_init d (3, 428) [.ref 26] (shA.take 27, s, t, ro, X) (fun r h => r = none ∧ h = (shA.take 30, ab_up (ab_up (ab_up (ab_ro (ab_ro (ab_ro s 27 (fun _ => 0)) 28 (fun _ => 0)) 29 (fun _ => 0)) 26 3 (0)) 26 4 (0)) 26 5 (0), ab_ro (ab_ro (ab_ro t 27 (fun _ => 0)) 28 (fun _ => 0)) 29 (fun _ => 0), ab_up (ab_ro (ab_up (ab_ro (ab_up (ab_ro ro 27 (fun _ => .null)) 26 0 (.ref 27)) 28 (fun _ => .null)) 26 1 (.ref 28)) 29 (fun _ => .null)) 26 2 (.ref 29), X)) := by
  refine ab_T_of (M := m_La_init) rfl rfl (Nat.le_of_ble_eq_true rfl) ?_
  show ab_Z m_La_init _ _ _ 0 [_] [] _
  refine ab_go ok_La_init 4 rfl ?_
  show ab_Z m_La_init _ _ _ 4 [_] [_, _] _
  refine ab_nwI ok_La_init (b' := (2, 28)) rfl (show (400 : Int32) = nI 400 from rfl) (by decide) (n := 27) rfl rfl (by decide) rfl rfl ?_
  show ab_Z m_La_init _ _ _ 5 [_] [_, _] (shA.take 28, _, _, _, _)
  refine ab_pr ok_La_init rfl rfl (by decide) (by decide) ?_
  show ab_Z m_La_init _ _ _ 6 [_] [] _
  refine ab_go ok_La_init 2 rfl ?_
  show ab_Z m_La_init _ _ _ 8 [_] [_, _] _
  refine ab_nwI ok_La_init (b' := (1, 15)) rfl (show (13 : Int32) = nI 13 from rfl) (by decide) (n := 28) rfl rfl (by decide) rfl rfl ?_
  show ab_Z m_La_init _ _ _ 9 [_] [_, _] (shA.take 29, _, _, _, _)
  refine ab_pr ok_La_init rfl rfl (by decide) (by decide) ?_
  show ab_Z m_La_init _ _ _ 10 [_] [] _
  refine ab_go ok_La_init 2 rfl ?_
  show ab_Z m_La_init _ _ _ 12 [_] [_, _] _
  refine ab_nwI ok_La_init (b' := (0, 0)) rfl (show (15 : Int32) = nI 15 from rfl) (by decide) (n := 29) rfl rfl (by decide) rfl rfl ?_
  show ab_Z m_La_init _ _ _ 13 [_] [_, _] (shA.take 30, _, _, _, _)
  refine ab_pr ok_La_init rfl rfl (by decide) (by decide) ?_
  show ab_Z m_La_init _ _ _ 14 [_] [] _
  refine ab_go ok_La_init 8 rfl ?_
  show ab_Z m_La_init _ _ _ 22 [_] [_, _] _
  refine ab_go ok_La_init 1 rfl ?_
  show ab_Z m_La_init _ _ _ 23 [_] [] _
  exact ab_rV ok_La_init rfl (⟨rfl, rfl⟩)
theorem t_La_init_30 : ab_T g_La_init d (3, 428) [.ref 30] (shA.take 31, s, t, ro, X) (fun r h => r = none ∧ h = (shA.take 34, ab_up (ab_up (ab_up (ab_ro (ab_ro (ab_ro s 31 (fun _ => 0)) 32 (fun _ => 0)) 33 (fun _ => 0)) 30 3 (0)) 30 4 (0)) 30 5 (0), ab_ro (ab_ro (ab_ro t 31 (fun _ => 0)) 32 (fun _ => 0)) 33 (fun _ => 0), ab_up (ab_ro (ab_up (ab_ro (ab_up (ab_ro ro 31 (fun _ => .null)) 30 0 (.ref 31)) 32 (fun _ => .null)) 30 1 (.ref 32)) 33 (fun _ => .null)) 30 2 (.ref 33), X)) := by
  refine ab_T_of (M := m_La_init) rfl rfl (Nat.le_of_ble_eq_true rfl) ?_
  show ab_Z m_La_init _ _ _ 0 [_] [] _
  refine ab_go ok_La_init 4 rfl ?_
  show ab_Z m_La_init _ _ _ 4 [_] [_, _] _
  refine ab_nwI ok_La_init (b' := (2, 28)) rfl (show (400 : Int32) = nI 400 from rfl) (by decide) (n := 31) rfl rfl (by decide) rfl rfl ?_
  show ab_Z m_La_init _ _ _ 5 [_] [_, _] (shA.take 32, _, _, _, _)
  refine ab_pr ok_La_init rfl rfl (by decide) (by decide) ?_
  show ab_Z m_La_init _ _ _ 6 [_] [] _
  refine ab_go ok_La_init 2 rfl ?_
  show ab_Z m_La_init _ _ _ 8 [_] [_, _] _
  refine ab_nwI ok_La_init (b' := (1, 15)) rfl (show (13 : Int32) = nI 13 from rfl) (by decide) (n := 32) rfl rfl (by decide) rfl rfl ?_
  show ab_Z m_La_init _ _ _ 9 [_] [_, _] (shA.take 33, _, _, _, _)
  refine ab_pr ok_La_init rfl rfl (by decide) (by decide) ?_
  show ab_Z m_La_init _ _ _ 10 [_] [] _
  refine ab_go ok_La_init 2 rfl ?_
  show ab_Z m_La_init _ _ _ 12 [_] [_, _] _
  refine ab_nwI ok_La_init (b' := (0, 0)) rfl (show (15 : Int32) = nI 15 from rfl) (by decide) (n := 33) rfl rfl (by decide) rfl rfl ?_
  show ab_Z m_La_init _ _ _ 13 [_] [_, _] (shA.take 34, _, _, _, _)
  refine ab_pr ok_La_init rfl rfl (by decide) (by decide) ?_
  show ab_Z m_La_init _ _ _ 14 [_] [] _
  refine ab_go ok_La_init 8 rfl ?_
  show ab_Z m_La_init _ _ _ 22 [_] [_, _] _
  refine ab_go ok_La_init 1 rfl ?_
  show ab_Z m_La_init _ _ _ 23 [_] [] _
  exact ab_rV ok_La_init rfl (⟨rfl, rfl⟩)
theorem t_La_init_34 : ab_T g_La_init d (3, 428) [.ref 34] (shA.take 35, s, t, ro, X) (fun r h => r = none ∧ h = (shA.take 38, ab_up (ab_up (ab_up (ab_ro (ab_ro (ab_ro s 35 (fun _ => 0)) 36 (fun _ => 0)) 37 (fun _ => 0)) 34 3 (0)) 34 4 (0)) 34 5 (0), ab_ro (ab_ro (ab_ro t 35 (fun _ => 0)) 36 (fun _ => 0)) 37 (fun _ => 0), ab_up (ab_ro (ab_up (ab_ro (ab_up (ab_ro ro 35 (fun _ => .null)) 34 0 (.ref 35)) 36 (fun _ => .null)) 34 1 (.ref 36)) 37 (fun _ => .null)) 34 2 (.ref 37), X)) := by
  refine ab_T_of (M := m_La_init) rfl rfl (Nat.le_of_ble_eq_true rfl) ?_
  show ab_Z m_La_init _ _ _ 0 [_] [] _
  refine ab_go ok_La_init 4 rfl ?_
  show ab_Z m_La_init _ _ _ 4 [_] [_, _] _
  refine ab_nwI ok_La_init (b' := (2, 28)) rfl (show (400 : Int32) = nI 400 from rfl) (by decide) (n := 35) rfl rfl (by decide) rfl rfl ?_
  show ab_Z m_La_init _ _ _ 5 [_] [_, _] (shA.take 36, _, _, _, _)
  refine ab_pr ok_La_init rfl rfl (by decide) (by decide) ?_
  show ab_Z m_La_init _ _ _ 6 [_] [] _
  refine ab_go ok_La_init 2 rfl ?_
  show ab_Z m_La_init _ _ _ 8 [_] [_, _] _
  refine ab_nwI ok_La_init (b' := (1, 15)) rfl (show (13 : Int32) = nI 13 from rfl) (by decide) (n := 36) rfl rfl (by decide) rfl rfl ?_
  show ab_Z m_La_init _ _ _ 9 [_] [_, _] (shA.take 37, _, _, _, _)
  refine ab_pr ok_La_init rfl rfl (by decide) (by decide) ?_
  show ab_Z m_La_init _ _ _ 10 [_] [] _
  refine ab_go ok_La_init 2 rfl ?_
  show ab_Z m_La_init _ _ _ 12 [_] [_, _] _
  refine ab_nwI ok_La_init (b' := (0, 0)) rfl (show (15 : Int32) = nI 15 from rfl) (by decide) (n := 37) rfl rfl (by decide) rfl rfl ?_
  show ab_Z m_La_init _ _ _ 13 [_] [_, _] (shA.take 38, _, _, _, _)
  refine ab_pr ok_La_init rfl rfl (by decide) (by decide) ?_
  show ab_Z m_La_init _ _ _ 14 [_] [] _
  refine ab_go ok_La_init 8 rfl ?_
  show ab_Z m_La_init _ _ _ 22 [_] [_, _] _
  refine ab_go ok_La_init 1 rfl ?_
  show ab_Z m_La_init _ _ _ 23 [_] [] _
  exact ab_rV ok_La_init rfl (⟨rfl, rfl⟩)
theorem t_La_init_65 : ab_T g_La_init d (3, 428) [.ref 65] (shA.take 66, s, t, ro, X) (fun r h => r = none ∧ h = (shA.take 69, ab_up (ab_up (ab_up (ab_ro (ab_ro (ab_ro s 66 (fun _ => 0)) 67 (fun _ => 0)) 68 (fun _ => 0)) 65 3 (0)) 65 4 (0)) 65 5 (0), ab_ro (ab_ro (ab_ro t 66 (fun _ => 0)) 67 (fun _ => 0)) 68 (fun _ => 0), ab_up (ab_ro (ab_up (ab_ro (ab_up (ab_ro ro 66 (fun _ => .null)) 65 0 (.ref 66)) 67 (fun _ => .null)) 65 1 (.ref 67)) 68 (fun _ => .null)) 65 2 (.ref 68), X)) := by
  refine ab_T_of (M := m_La_init) rfl rfl (Nat.le_of_ble_eq_true rfl) ?_
  show ab_Z m_La_init _ _ _ 0 [_] [] _
  refine ab_go ok_La_init 4 rfl ?_
  show ab_Z m_La_init _ _ _ 4 [_] [_, _] _
  refine ab_nwI ok_La_init (b' := (2, 28)) rfl (show (400 : Int32) = nI 400 from rfl) (by decide) (n := 66) rfl rfl (by decide) rfl rfl ?_
  show ab_Z m_La_init _ _ _ 5 [_] [_, _] (shA.take 67, _, _, _, _)
  refine ab_pr ok_La_init rfl rfl (by decide) (by decide) ?_
  show ab_Z m_La_init _ _ _ 6 [_] [] _
  refine ab_go ok_La_init 2 rfl ?_
  show ab_Z m_La_init _ _ _ 8 [_] [_, _] _
  refine ab_nwI ok_La_init (b' := (1, 15)) rfl (show (13 : Int32) = nI 13 from rfl) (by decide) (n := 67) rfl rfl (by decide) rfl rfl ?_
  show ab_Z m_La_init _ _ _ 9 [_] [_, _] (shA.take 68, _, _, _, _)
  refine ab_pr ok_La_init rfl rfl (by decide) (by decide) ?_
  show ab_Z m_La_init _ _ _ 10 [_] [] _
  refine ab_go ok_La_init 2 rfl ?_
  show ab_Z m_La_init _ _ _ 12 [_] [_, _] _
  refine ab_nwI ok_La_init (b' := (0, 0)) rfl (show (15 : Int32) = nI 15 from rfl) (by decide) (n := 68) rfl rfl (by decide) rfl rfl ?_
  show ab_Z m_La_init _ _ _ 13 [_] [_, _] (shA.take 69, _, _, _, _)
  refine ab_pr ok_La_init rfl rfl (by decide) (by decide) ?_
  show ab_Z m_La_init _ _ _ 14 [_] [] _
  refine ab_go ok_La_init 8 rfl ?_
  show ab_Z m_La_init _ _ _ 22 [_] [_, _] _
  refine ab_go ok_La_init 1 rfl ?_
  show ab_Z m_La_init _ _ _ 23 [_] [] _
  exact ab_rV ok_La_init rfl (⟨rfl, rfl⟩)
theorem t_La_init_69 : ab_T g_La_init d (3, 428) [.ref 69] (shA.take 70, s, t, ro, X) (fun r h => r = none ∧ h = (shA.take 73, ab_up (ab_up (ab_up (ab_ro (ab_ro (ab_ro s 70 (fun _ => 0)) 71 (fun _ => 0)) 72 (fun _ => 0)) 69 3 (0)) 69 4 (0)) 69 5 (0), ab_ro (ab_ro (ab_ro t 70 (fun _ => 0)) 71 (fun _ => 0)) 72 (fun _ => 0), ab_up (ab_ro (ab_up (ab_ro (ab_up (ab_ro ro 70 (fun _ => .null)) 69 0 (.ref 70)) 71 (fun _ => .null)) 69 1 (.ref 71)) 72 (fun _ => .null)) 69 2 (.ref 72), X)) := by
  refine ab_T_of (M := m_La_init) rfl rfl (Nat.le_of_ble_eq_true rfl) ?_
  show ab_Z m_La_init _ _ _ 0 [_] [] _
  refine ab_go ok_La_init 4 rfl ?_
  show ab_Z m_La_init _ _ _ 4 [_] [_, _] _
  refine ab_nwI ok_La_init (b' := (2, 28)) rfl (show (400 : Int32) = nI 400 from rfl) (by decide) (n := 70) rfl rfl (by decide) rfl rfl ?_
  show ab_Z m_La_init _ _ _ 5 [_] [_, _] (shA.take 71, _, _, _, _)
  refine ab_pr ok_La_init rfl rfl (by decide) (by decide) ?_
  show ab_Z m_La_init _ _ _ 6 [_] [] _
  refine ab_go ok_La_init 2 rfl ?_
  show ab_Z m_La_init _ _ _ 8 [_] [_, _] _
  refine ab_nwI ok_La_init (b' := (1, 15)) rfl (show (13 : Int32) = nI 13 from rfl) (by decide) (n := 71) rfl rfl (by decide) rfl rfl ?_
  show ab_Z m_La_init _ _ _ 9 [_] [_, _] (shA.take 72, _, _, _, _)
  refine ab_pr ok_La_init rfl rfl (by decide) (by decide) ?_
  show ab_Z m_La_init _ _ _ 10 [_] [] _
  refine ab_go ok_La_init 2 rfl ?_
  show ab_Z m_La_init _ _ _ 12 [_] [_, _] _
  refine ab_nwI ok_La_init (b' := (0, 0)) rfl (show (15 : Int32) = nI 15 from rfl) (by decide) (n := 72) rfl rfl (by decide) rfl rfl ?_
  show ab_Z m_La_init _ _ _ 13 [_] [_, _] (shA.take 73, _, _, _, _)
  refine ab_pr ok_La_init rfl rfl (by decide) (by decide) ?_
  show ab_Z m_La_init _ _ _ 14 [_] [] _
  refine ab_go ok_La_init 8 rfl ?_
  show ab_Z m_La_init _ _ _ 22 [_] [_, _] _
  refine ab_go ok_La_init 1 rfl ?_
  show ab_Z m_La_init _ _ _ 23 [_] [] _
  exact ab_rV ok_La_init rfl (⟨rfl, rfl⟩)
theorem t_La_init_73 : ab_T g_La_init d (3, 428) [.ref 73] (shA.take 74, s, t, ro, X) (fun r h => r = none ∧ h = (shA.take 77, ab_up (ab_up (ab_up (ab_ro (ab_ro (ab_ro s 74 (fun _ => 0)) 75 (fun _ => 0)) 76 (fun _ => 0)) 73 3 (0)) 73 4 (0)) 73 5 (0), ab_ro (ab_ro (ab_ro t 74 (fun _ => 0)) 75 (fun _ => 0)) 76 (fun _ => 0), ab_up (ab_ro (ab_up (ab_ro (ab_up (ab_ro ro 74 (fun _ => .null)) 73 0 (.ref 74)) 75 (fun _ => .null)) 73 1 (.ref 75)) 76 (fun _ => .null)) 73 2 (.ref 76), X)) := by
  refine ab_T_of (M := m_La_init) rfl rfl (Nat.le_of_ble_eq_true rfl) ?_
  show ab_Z m_La_init _ _ _ 0 [_] [] _
  refine ab_go ok_La_init 4 rfl ?_
  show ab_Z m_La_init _ _ _ 4 [_] [_, _] _
  refine ab_nwI ok_La_init (b' := (2, 28)) rfl (show (400 : Int32) = nI 400 from rfl) (by decide) (n := 74) rfl rfl (by decide) rfl rfl ?_
  show ab_Z m_La_init _ _ _ 5 [_] [_, _] (shA.take 75, _, _, _, _)
  refine ab_pr ok_La_init rfl rfl (by decide) (by decide) ?_
  show ab_Z m_La_init _ _ _ 6 [_] [] _
  refine ab_go ok_La_init 2 rfl ?_
  show ab_Z m_La_init _ _ _ 8 [_] [_, _] _
  refine ab_nwI ok_La_init (b' := (1, 15)) rfl (show (13 : Int32) = nI 13 from rfl) (by decide) (n := 75) rfl rfl (by decide) rfl rfl ?_
  show ab_Z m_La_init _ _ _ 9 [_] [_, _] (shA.take 76, _, _, _, _)
  refine ab_pr ok_La_init rfl rfl (by decide) (by decide) ?_
  show ab_Z m_La_init _ _ _ 10 [_] [] _
  refine ab_go ok_La_init 2 rfl ?_
  show ab_Z m_La_init _ _ _ 12 [_] [_, _] _
  refine ab_nwI ok_La_init (b' := (0, 0)) rfl (show (15 : Int32) = nI 15 from rfl) (by decide) (n := 76) rfl rfl (by decide) rfl rfl ?_
  show ab_Z m_La_init _ _ _ 13 [_] [_, _] (shA.take 77, _, _, _, _)
  refine ab_pr ok_La_init rfl rfl (by decide) (by decide) ?_
  show ab_Z m_La_init _ _ _ 14 [_] [] _
  refine ab_go ok_La_init 8 rfl ?_
  show ab_Z m_La_init _ _ _ 22 [_] [_, _] _
  refine ab_go ok_La_init 1 rfl ?_
  show ab_Z m_La_init _ _ _ 23 [_] [] _
  exact ab_rV ok_La_init rfl (⟨rfl, rfl⟩)
theorem t_La_init_77 : ab_T g_La_init d (3, 428) [.ref 77] (shA.take 78, s, t, ro, X) (fun r h => r = none ∧ h = (shA.take 81, ab_up (ab_up (ab_up (ab_ro (ab_ro (ab_ro s 78 (fun _ => 0)) 79 (fun _ => 0)) 80 (fun _ => 0)) 77 3 (0)) 77 4 (0)) 77 5 (0), ab_ro (ab_ro (ab_ro t 78 (fun _ => 0)) 79 (fun _ => 0)) 80 (fun _ => 0), ab_up (ab_ro (ab_up (ab_ro (ab_up (ab_ro ro 78 (fun _ => .null)) 77 0 (.ref 78)) 79 (fun _ => .null)) 77 1 (.ref 79)) 80 (fun _ => .null)) 77 2 (.ref 80), X)) := by
  refine ab_T_of (M := m_La_init) rfl rfl (Nat.le_of_ble_eq_true rfl) ?_
  show ab_Z m_La_init _ _ _ 0 [_] [] _
  refine ab_go ok_La_init 4 rfl ?_
  show ab_Z m_La_init _ _ _ 4 [_] [_, _] _
  refine ab_nwI ok_La_init (b' := (2, 28)) rfl (show (400 : Int32) = nI 400 from rfl) (by decide) (n := 78) rfl rfl (by decide) rfl rfl ?_
  show ab_Z m_La_init _ _ _ 5 [_] [_, _] (shA.take 79, _, _, _, _)
  refine ab_pr ok_La_init rfl rfl (by decide) (by decide) ?_
  show ab_Z m_La_init _ _ _ 6 [_] [] _
  refine ab_go ok_La_init 2 rfl ?_
  show ab_Z m_La_init _ _ _ 8 [_] [_, _] _
  refine ab_nwI ok_La_init (b' := (1, 15)) rfl (show (13 : Int32) = nI 13 from rfl) (by decide) (n := 79) rfl rfl (by decide) rfl rfl ?_
  show ab_Z m_La_init _ _ _ 9 [_] [_, _] (shA.take 80, _, _, _, _)
  refine ab_pr ok_La_init rfl rfl (by decide) (by decide) ?_
  show ab_Z m_La_init _ _ _ 10 [_] [] _
  refine ab_go ok_La_init 2 rfl ?_
  show ab_Z m_La_init _ _ _ 12 [_] [_, _] _
  refine ab_nwI ok_La_init (b' := (0, 0)) rfl (show (15 : Int32) = nI 15 from rfl) (by decide) (n := 80) rfl rfl (by decide) rfl rfl ?_
  show ab_Z m_La_init _ _ _ 13 [_] [_, _] (shA.take 81, _, _, _, _)
  refine ab_pr ok_La_init rfl rfl (by decide) (by decide) ?_
  show ab_Z m_La_init _ _ _ 14 [_] [] _
  refine ab_go ok_La_init 8 rfl ?_
  show ab_Z m_La_init _ _ _ 22 [_] [_, _] _
  refine ab_go ok_La_init 1 rfl ?_
  show ab_Z m_La_init _ _ _ 23 [_] [] _
  exact ab_rV ok_La_init rfl (⟨rfl, rfl⟩)
end

