/-! the String of the words -/
abbrev H8 (s : Nat → Nat → Int32) (t : Nat → Nat → Int64) (ro : Nat → Nat → Value) (X : Nat × (Nat → Int32)) : ab_H := (shA.take 8, s, t, ro, X)
section
variable (d : Nat) (s : Nat → Nat → Int32) (t : Nat → Nat → Int64) (ro : Nat → Nat → Value) (X : Nat × (Nat → Int32))
theorem u_JS_coder (h : ab_H) : ab_T g_JS_coder d (0, 0) [.ref 9002] h (PI 0 h) := by
  refine ab_T_of (M := m_JS_coder) rfl rfl (Nat.le_of_ble_eq_true rfl) ?_
  show ab_Z m_JS_coder _ _ _ 0 [_] [] _
  refine ab_go ok_JS_coder 1 rfl ?_
  show ab_Z m_JS_coder _ _ _ 1 [_] [_] _
  refine ab_go ok_JS_coder 1 rfl ?_
  show ab_Z m_JS_coder _ _ _ 2 [_] [] _
  refine ab_go ok_JS_coder 3 rfl ?_
  show ab_Z m_JS_coder _ _ _ 6 [_] [_] _
  exact ab_retZ (ab_okat ok_JS_coder (i := 6) (a := .inr (.inl 5)) rfl).1 (ab_okat ok_JS_coder (i := 6) (a := .inr (.inl 5)) rfl).2 rfl ⟨rfl, rfl⟩
theorem u_JS_length : ab_T g_JS_length (d + 1) (0, 0) [.ref 9002] (H8 s t ro X) (PI 119 (H8 s t ro X)) := by
  refine ab_T_of (M := m_JS_length) rfl rfl (Nat.le_of_ble_eq_true rfl) ?_
  show ab_Z m_JS_length _ _ _ 0 [_] [] _
  refine ab_go ok_JS_length 4 rfl ?_
  show ab_Z m_JS_length _ _ _ 4 [_] [_, _] _
  refine ab_cl ok_JS_length rfl [_] [_] rfl ⟨_, _, rfl, rfl, Or.inr ⟨Or.inl rfl, rfl⟩⟩ (Nat.le_of_ble_eq_true rfl) (u_JS_coder d _) ?_
  rintro _ _ ⟨rfl, rfl⟩
  show ab_Z m_JS_length _ _ _ 5 [_] [_, _] _
  refine ab_go ok_JS_length 1 rfl ?_
  show ab_Z m_JS_length _ _ _ 6 [_] [_] _
  exact ab_rI ok_JS_length rfl (⟨rfl, rfl⟩)
theorem u_JS_isLatin1 (h : ab_H) : ab_T g_JS_isLatin1 d (0, 0) [.ref 9002] h (PI 1 h) := by
  refine ab_T_of (M := m_JS_isLatin1) rfl rfl (Nat.le_of_ble_eq_true rfl) ?_
  show ab_Z m_JS_isLatin1 _ _ _ 0 [_] [] _
  refine ab_go ok_JS_isLatin1 1 rfl ?_
  show ab_Z m_JS_isLatin1 _ _ _ 1 [_] [_] _
  refine ab_go ok_JS_isLatin1 1 rfl ?_
  show ab_Z m_JS_isLatin1 _ _ _ 2 [_] [] _
  refine ab_go ok_JS_isLatin1 2 rfl ?_
  show ab_Z m_JS_isLatin1 _ _ _ 4 [_] [_] _
  refine ab_go ok_JS_isLatin1 1 rfl ?_
  show ab_Z m_JS_isLatin1 _ _ _ 5 [_] [] _
  refine ab_go ok_JS_isLatin1 2 rfl ?_
  show ab_Z m_JS_isLatin1 _ _ _ 8 [_] [_] _
  exact ab_rZ ok_JS_isLatin1 rfl (by first | decide | exact bB_01 _ | exact bI_01 _) (⟨rfl, rfl⟩)
end

