section
variable (d : Nat) (s : Nat → Nat → Int32) (t : Nat → Nat → Int64) (ro : Nat → Nat → Value) (X : Nat × (Nat → Int32))
theorem u_JL_charAt {i : Nat} (hi : i < 119) (hv : ro 9006 0 = .null ∨ ∃ a, ro 9006 0 = .ref a) : ab_T g_JL_charAt (d + 2) (0, 0) [.ref 9004, .int (nI i)] (H8 s t ro X) (PI (wbI i) (H8 s t ro X)) := by
  have hb : ∀ i, i < 119 → ((wbI i &&& 255).toUInt32 % 65536).toInt32 = wbI i := by decide +kernel
  refine ab_T_of (M := m_JL_charAt) rfl rfl (Nat.le_of_ble_eq_true rfl) ?_
  show ab_Z m_JL_charAt _ _ _ 0 [_, _] [] _
  refine ab_go ok_JL_charAt 3 rfl ?_
  show ab_Z m_JL_charAt _ _ _ 3 [_, _] [_, _] _
  refine ab_cl ok_JL_charAt rfl [_, _] [] rfl rfl (Nat.le_of_ble_eq_true rfl) (u_JS_checkIndex d s t ro X hi hv) ?_
  rintro _ _ ⟨rfl, rfl⟩
  show ab_Z m_JL_charAt _ _ _ 4 [_, _] [] _
  refine ab_go ok_JL_charAt 2 rfl ?_
  show ab_Z m_JL_charAt _ _ _ 6 [_, _] [_, _] _
  refine ab_ck ok_JL_charAt (C := 0 ≤ (nI i).toInt ∧ (nI i).toInt < 119) (h1 := H8 s t ro X) (i1 := 7) (L1 := [some (.ref 9004), some (.int (nI i))]) (st1 := [.int ((ab_byt.getD 0 []).getD (nI i).toNatClampNeg 0)]) rfl rfl (by rw [nI_t (by omega)]; omega) ?_
  rw [nI_c (by omega)]
  show ab_Z m_JL_charAt _ _ _ 7 [_, _] [.int (wbI i)] _
  refine ab_go ok_JL_charAt 3 rfl ?_
  show ab_Z m_JL_charAt _ _ _ 10 [_, _] [_] _
  rw [hb i hi]
  exact ab_retZ (ab_okat ok_JL_charAt (i := 10) (a := .inr (.inl 6)) rfl).1 (ab_okat ok_JL_charAt (i := 10) (a := .inr (.inl 6)) rfl).2 (wb_c i hi) ⟨rfl, rfl⟩
theorem u_JS_charAt {i : Nat} (hi : i < 119) (hv : ro 9006 0 = .null ∨ ∃ a, ro 9006 0 = .ref a) : ab_T g_JS_charAt (d + 3) (0, 0) [.ref 9002, .int (nI i)] (H8 s t ro X) (PI (wbI i) (H8 s t ro X)) := by
  refine ab_T_of (M := m_JS_charAt) rfl rfl (Nat.le_of_ble_eq_true rfl) ?_
  show ab_Z m_JS_charAt _ _ _ 0 [_, _] [] _
  refine ab_go ok_JS_charAt 1 rfl ?_
  show ab_Z m_JS_charAt _ _ _ 1 [_, _] [_] _
  refine ab_cl ok_JS_charAt rfl [_] [] rfl ⟨_, _, rfl, rfl, Or.inr ⟨Or.inl rfl, rfl⟩⟩ (Nat.le_of_ble_eq_true rfl) (u_JS_isLatin1 (d + 2) _) ?_
  rintro _ _ ⟨rfl, rfl⟩
  show ab_Z m_JS_charAt _ _ _ 2 [_, _] [_] _
  refine ab_go ok_JS_charAt 1 rfl ?_
  show ab_Z m_JS_charAt _ _ _ 3 [_, _] [] _
  refine ab_go ok_JS_charAt 3 rfl ?_
  show ab_Z m_JS_charAt _ _ _ 6 [_, _] [_, _] _
  refine ab_cl ok_JS_charAt rfl [_, _] [] rfl rfl (Nat.le_of_ble_eq_true rfl) (u_JL_charAt d s t ro X hi hv) ?_
  rintro _ _ ⟨rfl, rfl⟩
  show ab_Z m_JS_charAt _ _ _ 7 [_, _] [_] _
  exact ab_retZ (ab_okat ok_JS_charAt (i := 7) (a := .inr (.inl 6)) rfl).1 (ab_okat ok_JS_charAt (i := 7) (a := .inr (.inl 6)) rfl).2 (wb_c i hi) ⟨rfl, rfl⟩
end

