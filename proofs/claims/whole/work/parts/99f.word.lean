/-! the letters of the words -/
def wbI (i : Nat) : Int32 := (ab_byt.getD 0 []).getD i 0
theorem wb_c : ∀ i, i < 119 → narrow .char (.int (wbI i)) = .int (wbI i) := by
  intro i hi
  have h : ∀ i, i < 119 → (wbI i &&& 255).toUInt32.toUInt16.toUInt32.toInt32 = wbI i := by decide +kernel
  have := h i hi
  have h2 : ∀ i, i < 119 → 0 ≤ (wbI i).toInt ∧ (wbI i).toInt < 128 := by decide +kernel
  have key : ∀ z : Nat, z < 128 → narrow .char (.int (nI z)) = .int (nI z) := by
    intro z hz
    have k : ∀ z, z < 128 → (narrow .char (.int (nI z)) = .int (nI z)) := by
      intro z hz
      rcases (by omega : z < 64 ∨ 64 ≤ z) with _ | _
      all_goals
        first
          | rfl
          | (have : ∀ z, z < 128 → (nI z).toUInt32.toUInt16.toUInt32.toInt32 = nI z := by decide +kernel
             simp only [narrow]
             first
               | (rw [this z hz])
               | (congr 1; exact this z hz))
    exact k z hz
  have e : wbI i = nI (wbI i).toNatClampNeg := by
    have h3 : ∀ i, i < 119 → wbI i = nI (wbI i).toNatClampNeg := by decide +kernel
    exact h3 i hi
  have h4 : ∀ i, i < 119 → (wbI i).toNatClampNeg < 128 := by decide +kernel
  rw [e]
  exact key _ (h4 i hi)
section
variable (d : Nat) (s : Nat → Nat → Int32) (t : Nat → Nat → Int64) (ro : Nat → Nat → Value) (X : Nat × (Nat → Int32))
theorem u_JP_checkIndex (h : ab_H) {i : Nat} (hi : i < 119) (v : Value) (hv : v = .null ∨ ∃ a, v = .ref a) : ab_T g_JP_checkIndex d (0, 0) [.int (nI i), .int 119, v] h (PI (nI i) h) := by
  rcases hv with rfl | ⟨a, rfl⟩
  · refine ab_T_of (M := m_JP_checkIndex) rfl rfl (Nat.le_of_ble_eq_true rfl) ?_
    show ab_Z m_JP_checkIndex _ _ _ 0 [_, _, _] [] _
    refine ab_go ok_JP_checkIndex 1 rfl ?_
    show ab_Z m_JP_checkIndex _ _ _ 1 [_, _, _] [_] _
    refine ab_br ok_JP_checkIndex rfl rfl ?_ ?_
    · intro h1
      show ab_Z m_JP_checkIndex _ _ _ 5 [_, _, _] [] _
      exact absurd h1 (nI_l0 (by omega))
    · intro h1
      show ab_Z m_JP_checkIndex _ _ _ 2 [_, _, _] [] _
      refine ab_go ok_JP_checkIndex 2 rfl ?_
      show ab_Z m_JP_checkIndex _ _ _ 4 [_, _, _] [_, _] _
      refine ab_br ok_JP_checkIndex rfl rfl ?_ ?_
      · intro h2
        show ab_Z m_JP_checkIndex _ _ _ 10 [_, _, _] [] _
        refine ab_go ok_JP_checkIndex 1 rfl ?_
        show ab_Z m_JP_checkIndex _ _ _ 11 [_, _, _] [_] _
        exact ab_rI ok_JP_checkIndex rfl (⟨rfl, rfl⟩)
      · intro h2
        show ab_Z m_JP_checkIndex _ _ _ 5 [_, _, _] [] _
        exact absurd ((nI_ltI (show i < 2 ^ 31 by omega) (show 119 < 2 ^ 31 by decide)).mpr hi) h2
  · refine ab_T_of (M := m_JP_checkIndex) rfl rfl (Nat.le_of_ble_eq_true rfl) ?_
    show ab_Z m_JP_checkIndex _ _ _ 0 [_, _, _] [] _
    refine ab_go ok_JP_checkIndex 1 rfl ?_
    show ab_Z m_JP_checkIndex _ _ _ 1 [_, _, _] [_] _
    refine ab_br ok_JP_checkIndex rfl rfl ?_ ?_
    · intro h1
      show ab_Z m_JP_checkIndex _ _ _ 5 [_, _, _] [] _
      exact absurd h1 (nI_l0 (by omega))
    · intro h1
      show ab_Z m_JP_checkIndex _ _ _ 2 [_, _, _] [] _
      refine ab_go ok_JP_checkIndex 2 rfl ?_
      show ab_Z m_JP_checkIndex _ _ _ 4 [_, _, _] [_, _] _
      refine ab_br ok_JP_checkIndex rfl rfl ?_ ?_
      · intro h2
        show ab_Z m_JP_checkIndex _ _ _ 10 [_, _, _] [] _
        refine ab_go ok_JP_checkIndex 1 rfl ?_
        show ab_Z m_JP_checkIndex _ _ _ 11 [_, _, _] [_] _
        exact ab_rI ok_JP_checkIndex rfl (⟨rfl, rfl⟩)
      · intro h2
        show ab_Z m_JP_checkIndex _ _ _ 5 [_, _, _] [] _
        exact absurd ((nI_ltI (show i < 2 ^ 31 by omega) (show 119 < 2 ^ 31 by decide)).mpr hi) h2
theorem u_JS_checkIndex {i : Nat} (hi : i < 119) (hv : ro 9006 0 = .null ∨ ∃ a, ro 9006 0 = .ref a) : ab_T g_JS_checkIndex (d + 1) (0, 0) [.int (nI i), .int 119] (H8 s t ro X) (PV (H8 s t ro X)) := by
  refine ab_T_of (M := m_JS_checkIndex) rfl rfl (Nat.le_of_ble_eq_true rfl) ?_
  show ab_Z m_JS_checkIndex _ _ _ 0 [_, _] [] _
  refine ab_go ok_JS_checkIndex 3 rfl ?_
  show ab_Z m_JS_checkIndex _ _ _ 3 [_, _] [_, _, _] _
  refine ab_cl ok_JS_checkIndex rfl [_, _, _] [] rfl rfl (Nat.le_of_ble_eq_true rfl) (u_JP_checkIndex d _ hi _ hv) ?_
  rintro _ _ ⟨rfl, rfl⟩
  show ab_Z m_JS_checkIndex _ _ _ 4 [_, _] [_] _
  refine ab_go ok_JS_checkIndex 1 rfl ?_
  show ab_Z m_JS_checkIndex _ _ _ 5 [_, _] [] _
  exact ab_rV ok_JS_checkIndex rfl (⟨rfl, rfl⟩)
end

