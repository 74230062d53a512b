/-! the class is made -/
section
variable (d : Nat) (s : Nat → Nat → Int32) (t : Nat → Nat → Int64) (ro : Nat → Nat → Value) (X : Nat × (Nat → Int32))
theorem t_Ta_init : ab_T g_Ta_init d (1, 2000) [.ref 1] (shA.take 2, s, t, ro, X) (fun r h => r = none ∧ h = (shA.take 3, ab_up (ab_ro s 2 (fun _ => 0)) 1 1 0, ab_ro t 2 (fun _ => 0), ab_up (ab_ro ro 2 (fun _ => .null)) 1 0 (.ref 2), X)) := by
  refine ab_T_of (M := m_Ta_init) rfl rfl (Nat.le_of_ble_eq_true rfl) ?_
  show ab_Z m_Ta_init _ _ _ 0 [_] [] _
  refine ab_go ok_Ta_init 4 rfl ?_
  show ab_Z m_Ta_init _ _ _ 4 [_] [_, _] _
  refine ab_nwB ok_Ta_init (b' := (0, 0)) rfl (show (2000 : Int32) = nI 2000 from rfl) (by decide) (n := 2) rfl rfl (by decide) rfl rfl ?_
  show ab_Z m_Ta_init _ _ _ 5 [_] [_, _] (shA.take 3, _, _, _, _)
  refine ab_pr ok_Ta_init rfl rfl (by decide) (by decide) ?_
  refine ab_go ok_Ta_init 3 rfl ?_
  show ab_Z m_Ta_init _ _ _ 9 [_] [] _
  exact ab_rV ok_Ta_init rfl (⟨rfl, rfl⟩)
end

