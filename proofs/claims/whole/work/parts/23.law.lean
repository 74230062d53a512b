/-! laws: the common meaning of their code, and the class's own walk over it -/
abbrev Ins : Type := Nat × Nat
abbrev Stk : Type := (Nat → Int32) × Nat × Bool
def opF (k : Nat) (a b : Int32) : Int32 := match k with
  | 2 => a + b
  | 3 => a - b
  | 4 => a * b
  | _ => if b = 0 then 0 else a / b
def stpI (v : Nat → Int32) (z : Stk) (q : Ins) : Stk := match q.1 with
  | 0 => (upd z.1 z.2.1 (nI q.2), z.2.1 + 1, z.2.2)
  | 1 => (upd z.1 z.2.1 (v q.2), z.2.1 + 1, z.2.2)
  | k => (upd z.1 (z.2.1 - 2) (opF k (z.1 (z.2.1 - 2)) (z.1 (z.2.1 - 1))), z.2.1 - 1, z.2.2 || (decide (4 < k) && decide (z.1 (z.2.1 - 1) = 0)))
def runI (v : Nat → Int32) (z : Stk) (Q : List Ins) : Stk := Q.foldl (stpI v) z
def encI (q : Ins) : Int32 := match q.1 with
  | 0 => nI q.2
  | 1 => -nI (268 + q.2)
  | 2 => -43
  | 3 => -45
  | 4 => -42
  | _ => -47
/-- may this instruction stand at this height? -/
def okI (q : Ins) (h : Nat) : Prop := match q.1 with
  | 0 => h < 15 ∧ q.2 < 10000
  | 1 => h < 15 ∧ q.2 < 9
  | k => 2 ≤ h ∧ h ≤ 15 ∧ k ≤ 5
/-- from height h on all may stand, and one is left -/
def okQ : List Ins → Nat → Prop
  | [], h => h = 1
  | q :: r, h => okI q h ∧ okQ r (if q.1 < 2 then h + 1 else h - 1)
theorem stpI_h (v : Nat → Int32) (z : Stk) (q : Ins) : (stpI v z q).2.1 = if q.1 < 2 then z.2.1 + 1 else z.2.1 - 1 := by
  obtain ⟨k, n⟩ := q
  match k with
  | 0 => rfl
  | 1 => rfl
  | k + 2 => rw [if_neg (by show ¬ k + 2 < 2; omega)]; rfl
theorem okQ_at (v : Nat → Int32) : ∀ (Q : List Ins) (z : Stk), okQ Q z.2.1 → ∀ j q, Q[j]? = some q → okI q (runI v z (Q.take j)).2.1
  | [], _, _, j, q, h => by simp at h
  | a :: r, z, ok, 0, q, h => by
    simp at h
    subst h
    exact ok.1
  | a :: r, z, ok, j + 1, q, h => by
    rw [List.getElem?_cons_succ] at h
    have := okQ_at v r (stpI v z a) (by rw [stpI_h]; exact ok.2) j q h
    exact this
theorem runI_succ (v : Nat → Int32) (z : Stk) (Q : List Ins) {j : Nat} {q : Ins} (h : Q[j]? = some q) : runI v z (Q.take (j + 1)) = stpI v (runI v z (Q.take j)) q := by
  unfold runI
  rw [List.take_add_one, h, List.foldl_append]
  rfl
/-- the heap with the law's own rows: its stack, and whether it is broken -/
def lpH (s : Nat → Nat → Int32) (p : Nat) (z : Stk) : Nat → Nat → Int32 := ab_up (ab_ro s (p + 3) z.1) p 5 (if z.2.2 then 1 else 0)
theorem lpH_up (s : Nat → Nat → Int32) (p : Nat) (z : Stk) (k n : Nat) (v : Int32) : ab_up (lpH s p z) (p + 3) k v = lpH s p (upd z.1 k v, n, z.2.2) := by
  funext c j
  unfold lpH
  by_cases h1 : c = p + 3
  · subst h1
    rw [ab_up_c, ab_up_o (by omega), ab_up_o (by omega), ab_ro_c, ab_ro_c]
    rfl
  · rw [ab_up_o h1]
    by_cases h2 : c = p
    · subst h2
      rw [ab_up_c, ab_up_c, ab_ro_o h1, ab_ro_o h1]
    · rw [ab_up_o h2, ab_up_o h2, ab_ro_o h1, ab_ro_o h1]
theorem lpH_br (s : Nat → Nat → Int32) (p : Nat) (z : Stk) (n : Nat) (b : Bool) : ab_up (lpH s p z) p 5 (if b then 1 else 0) = lpH s p (z.1, n, b) := by
  funext c j
  by_cases h2 : c = p
  · subst h2
    by_cases h5 : j = 5
    · subst h5
      rw [ab_up_s]
      unfold lpH
      rw [ab_up_s]
    · rw [ab_up_n h5]
      unfold lpH
      rw [ab_up_n h5, ab_up_n h5]
  · rw [ab_up_o h2]
    unfold lpH
    rw [ab_up_o h2, ab_up_o h2]
theorem lpH_st (s : Nat → Nat → Int32) (p : Nat) (z : Stk) (k : Nat) : lpH s p z (p + 3) k = z.1 k := by
  unfold lpH
  rw [ab_up_o (by omega), ab_ro_c]
theorem lpH_b5 (s : Nat → Nat → Int32) (p : Nat) (z : Stk) : lpH s p z p 5 = if z.2.2 then 1 else 0 := ab_up_s ..
theorem lpH_o (s : Nat → Nat → Int32) (p : Nat) (z : Stk) {c : Nat} (h1 : c ≠ p) (h2 : c ≠ p + 3) : lpH s p z c = s c := by
  unfold lpH
  rw [ab_up_o h1, ab_ro_o h2]
theorem lpH_f (s : Nat → Nat → Int32) (p : Nat) (z : Stk) {k : Nat} (h : k ≠ 5) : lpH s p z p k = s p k := by
  unfold lpH
  rw [ab_up_n h, ab_ro_o (by omega)]
theorem lpH_id (s : Nat → Nat → Int32) (p n : Nat) (b : Bool) (h : s p 5 = if b then 1 else 0) : lpH s p (s (p + 3), n, b) = s := by
  funext c j
  unfold lpH
  by_cases h2 : c = p
  · subst h2
    rw [ab_up_c]
    by_cases h5 : j = 5
    · simp [h5, h]
    · simp only [h5, if_false]
      rw [ab_ro_o (by omega)]
  · rw [ab_up_o h2]
    by_cases h1 : c = p + 3
    · subst h1
      rw [ab_ro_c]
    · rw [ab_ro_o h1]
theorem lpH_tw (s : Nat → Nat → Int32) (p : Nat) (z y : Stk) : lpH (lpH s p z) p y = lpH s p y := by
  funext c j
  by_cases h2 : c = p
  · subst h2
    by_cases h5 : j = 5
    · subst h5; rw [lpH_b5, lpH_b5]
    · rw [lpH_f _ _ _ h5, lpH_f _ _ _ h5, lpH_f _ _ _ h5]
  · by_cases h1 : c = p + 3
    · subst h1; rw [lpH_st, lpH_st]
    · rw [lpH_o _ _ _ h2 h1, lpH_o _ _ _ h2 h1, lpH_o _ _ _ h2 h1]
section
variable (d : Nat) (fm : Value) (X : Nat × (Nat → Int32)) (s : Nat → Nat → Int32) (t : Nat → Nat → Int64)
theorem t_La_joined_22 (z : Stk) {k : Nat} (hk2 : 2 ≤ k) (hk5 : k ≤ 5) (n : Nat) (a b x : Int32) (hx : x = -encI (k, n)) : ab_T g_La_joined d (0, 0) [.ref 22, .int x, .int a, .int b] (HA fm X (lpH s 22 z) t) (PI (opF k a b) (HA fm X (lpH s 22 (z.1, z.2.1, z.2.2 || (decide (4 < k) && decide (b = 0)))) t)) := by
  have hk : k = 2 ∨ k = 3 ∨ k = 4 ∨ k = 5 := by omega
  rcases hk with rfl | rfl | rfl | rfl
  · obtain rfl : x = 43 := hx.trans (show -(-43 : Int32) = 43 by decide)
    refine ab_T_of (M := m_La_joined) rfl rfl (Nat.le_of_ble_eq_true rfl) ?_
    show ab_Z m_La_joined _ _ _ 0 [_, _, _, _] [] _
    refine ab_go ok_La_joined 1 rfl ?_
    show ab_Z m_La_joined _ _ _ 1 [_, _, _, _] [_] _
    refine ab_go ok_La_joined 1 rfl ?_
    rw [show ab_tgt 42 [10, 2, 14, 6] 14 43 = 2 from by decide]
    show ab_Z m_La_joined _ _ _ 2 [_, _, _, _] [] _
    refine ab_go ok_La_joined 3 rfl ?_
    show ab_Z m_La_joined _ _ _ 5 [_, _, _, _] [_] _
    rw [show (z.2.2 || (decide (4 < 2) && decide (b = 0))) = z.2.2 by simp]
    exact ab_rI ok_La_joined rfl (⟨rfl, rfl⟩)
  · obtain rfl : x = 45 := hx.trans (show -(-45 : Int32) = 45 by decide)
    refine ab_T_of (M := m_La_joined) rfl rfl (Nat.le_of_ble_eq_true rfl) ?_
    show ab_Z m_La_joined _ _ _ 0 [_, _, _, _] [] _
    refine ab_go ok_La_joined 1 rfl ?_
    show ab_Z m_La_joined _ _ _ 1 [_, _, _, _] [_] _
    refine ab_go ok_La_joined 1 rfl ?_
    rw [show ab_tgt 42 [10, 2, 14, 6] 14 45 = 6 from by decide]
    show ab_Z m_La_joined _ _ _ 6 [_, _, _, _] [] _
    refine ab_go ok_La_joined 3 rfl ?_
    show ab_Z m_La_joined _ _ _ 9 [_, _, _, _] [_] _
    rw [show (z.2.2 || (decide (4 < 3) && decide (b = 0))) = z.2.2 by simp]
    exact ab_rI ok_La_joined rfl (⟨rfl, rfl⟩)
  · obtain rfl : x = 42 := hx.trans (show -(-42 : Int32) = 42 by decide)
    refine ab_T_of (M := m_La_joined) rfl rfl (Nat.le_of_ble_eq_true rfl) ?_
    show ab_Z m_La_joined _ _ _ 0 [_, _, _, _] [] _
    refine ab_go ok_La_joined 1 rfl ?_
    show ab_Z m_La_joined _ _ _ 1 [_, _, _, _] [_] _
    refine ab_go ok_La_joined 1 rfl ?_
    rw [show ab_tgt 42 [10, 2, 14, 6] 14 42 = 10 from by decide]
    show ab_Z m_La_joined _ _ _ 10 [_, _, _, _] [] _
    refine ab_go ok_La_joined 3 rfl ?_
    show ab_Z m_La_joined _ _ _ 13 [_, _, _, _] [_] _
    rw [show (z.2.2 || (decide (4 < 4) && decide (b = 0))) = z.2.2 by simp]
    exact ab_rI ok_La_joined rfl (⟨rfl, rfl⟩)
  · obtain rfl : x = 47 := hx.trans (show -(-47 : Int32) = 47 by decide)
    refine ab_T_of (M := m_La_joined) rfl rfl (Nat.le_of_ble_eq_true rfl) ?_
    show ab_Z m_La_joined _ _ _ 0 [_, _, _, _] [] _
    refine ab_go ok_La_joined 1 rfl ?_
    show ab_Z m_La_joined _ _ _ 1 [_, _, _, _] [_] _
    refine ab_go ok_La_joined 1 rfl ?_
    rw [show ab_tgt 42 [10, 2, 14, 6] 14 47 = 14 from by decide]
    show ab_Z m_La_joined _ _ _ 14 [_, _, _, _] [] _
    refine ab_go ok_La_joined 4 rfl ?_
    show ab_Z m_La_joined _ _ _ 18 [_, _, _, _] [_, _, _] _
    rw [lpH_b5]
    refine ab_br ok_La_joined rfl rfl ?_ ?_
    · intro hb
      show ab_Z m_La_joined _ _ _ 19 [_, _, _, _] [_, _] _
      refine ab_go ok_La_joined 3 rfl ?_
      show ab_Z m_La_joined _ _ _ 23 [_, _, _, _] [_, _] _
      have e : (if z.2.2 = true then (1 : Int32) else 0) ||| 1 = if true = true then 1 else 0 := by cases z.2.2 <;> rfl
      rw [e]
      refine ab_go ok_La_joined 1 rfl ?_
      show ab_Z m_La_joined _ _ _ 24 [_, _, _, _] [] _
      rw [lpH_br s 22 z z.2.1 true]
      refine ab_go ok_La_joined 1 rfl ?_
      show ab_Z m_La_joined _ _ _ 25 [_, _, _, _] [_] _
      refine ab_br ok_La_joined rfl rfl ?_ ?_
      · intro _
        show ab_Z m_La_joined _ _ _ 26 [_, _, _, _] [] _
        refine ab_go ok_La_joined 2 rfl ?_
        show ab_Z m_La_joined _ _ _ 31 [_, _, _, _] [_] _
        exact ab_rI ok_La_joined rfl (⟨by subst hb; rfl, by rw [show (z.2.2 || (decide (4 < 5) && decide (b = 0))) = true by simp [hb]]⟩)
      · intro hb2
        show ab_Z m_La_joined _ _ _ 28 [_, _, _, _] [] _
        exact absurd hb hb2
    · intro hb
      show ab_Z m_La_joined _ _ _ 21 [_, _, _, _] [_, _] _
      refine ab_go ok_La_joined 2 rfl ?_
      show ab_Z m_La_joined _ _ _ 23 [_, _, _, _] [_, _] _
      have e : (if z.2.2 = true then (1 : Int32) else 0) ||| 0 = if z.2.2 = true then 1 else 0 := by cases z.2.2 <;> rfl
      rw [e]
      refine ab_ck ok_La_joined rfl rfl (by cases z.2.2 <;> decide) ?_
      show ab_Z m_La_joined _ _ _ 24 [_, _, _, _] [] _
      rw [lpH_br s 22 z z.2.1 z.2.2]
      refine ab_go ok_La_joined 1 rfl ?_
      show ab_Z m_La_joined _ _ _ 25 [_, _, _, _] [_] _
      refine ab_br ok_La_joined rfl rfl ?_ ?_
      · intro hb2
        show ab_Z m_La_joined _ _ _ 26 [_, _, _, _] [] _
        exact absurd hb2 hb
      · intro _
        show ab_Z m_La_joined _ _ _ 28 [_, _, _, _] [] _
        refine ab_go ok_La_joined 2 rfl ?_
        show ab_Z m_La_joined _ _ _ 30 [_, _, _, _] [_, _] _
        refine ab_ck ok_La_joined rfl rfl (hb) ?_
        show ab_Z m_La_joined _ _ _ 31 [_, _, _, _] [_] _
        exact ab_rI ok_La_joined rfl (⟨by show some (Value.int (a / b)) = some (Value.int (if b = 0 then 0 else a / b)); rw [if_neg hb], by rw [show (z.2.2 || (decide (4 < 5) && decide (b = 0))) = z.2.2 by simp [hb]]⟩)
theorem t_La_joined_26 (z : Stk) {k : Nat} (hk2 : 2 ≤ k) (hk5 : k ≤ 5) (n : Nat) (a b x : Int32) (hx : x = -encI (k, n)) : ab_T g_La_joined d (0, 0) [.ref 26, .int x, .int a, .int b] (HA fm X (lpH s 26 z) t) (PI (opF k a b) (HA fm X (lpH s 26 (z.1, z.2.1, z.2.2 || (decide (4 < k) && decide (b = 0)))) t)) := by
  have hk : k = 2 ∨ k = 3 ∨ k = 4 ∨ k = 5 := by omega
  rcases hk with rfl | rfl | rfl | rfl
  · obtain rfl : x = 43 := hx.trans (show -(-43 : Int32) = 43 by decide)
    refine ab_T_of (M := m_La_joined) rfl rfl (Nat.le_of_ble_eq_true rfl) ?_
    show ab_Z m_La_joined _ _ _ 0 [_, _, _, _] [] _
    refine ab_go ok_La_joined 1 rfl ?_
    show ab_Z m_La_joined _ _ _ 1 [_, _, _, _] [_] _
    refine ab_go ok_La_joined 1 rfl ?_
    rw [show ab_tgt 42 [10, 2, 14, 6] 14 43 = 2 from by decide]
    show ab_Z m_La_joined _ _ _ 2 [_, _, _, _] [] _
    refine ab_go ok_La_joined 3 rfl ?_
    show ab_Z m_La_joined _ _ _ 5 [_, _, _, _] [_] _
    rw [show (z.2.2 || (decide (4 < 2) && decide (b = 0))) = z.2.2 by simp]
    exact ab_rI ok_La_joined rfl (⟨rfl, rfl⟩)
  · obtain rfl : x = 45 := hx.trans (show -(-45 : Int32) = 45 by decide)
    refine ab_T_of (M := m_La_joined) rfl rfl (Nat.le_of_ble_eq_true rfl) ?_
    show ab_Z m_La_joined _ _ _ 0 [_, _, _, _] [] _
    refine ab_go ok_La_joined 1 rfl ?_
    show ab_Z m_La_joined _ _ _ 1 [_, _, _, _] [_] _
    refine ab_go ok_La_joined 1 rfl ?_
    rw [show ab_tgt 42 [10, 2, 14, 6] 14 45 = 6 from by decide]
    show ab_Z m_La_joined _ _ _ 6 [_, _, _, _] [] _
    refine ab_go ok_La_joined 3 rfl ?_
    show ab_Z m_La_joined _ _ _ 9 [_, _, _, _] [_] _
    rw [show (z.2.2 || (decide (4 < 3) && decide (b = 0))) = z.2.2 by simp]
    exact ab_rI ok_La_joined rfl (⟨rfl, rfl⟩)
  · obtain rfl : x = 42 := hx.trans (show -(-42 : Int32) = 42 by decide)
    refine ab_T_of (M := m_La_joined) rfl rfl (Nat.le_of_ble_eq_true rfl) ?_
    show ab_Z m_La_joined _ _ _ 0 [_, _, _, _] [] _
    refine ab_go ok_La_joined 1 rfl ?_
    show ab_Z m_La_joined _ _ _ 1 [_, _, _, _] [_] _
    refine ab_go ok_La_joined 1 rfl ?_
    rw [show ab_tgt 42 [10, 2, 14, 6] 14 42 = 10 from by decide]
    show ab_Z m_La_joined _ _ _ 10 [_, _, _, _] [] _
    refine ab_go ok_La_joined 3 rfl ?_
    show ab_Z m_La_joined _ _ _ 13 [_, _, _, _] [_] _
    rw [show (z.2.2 || (decide (4 < 4) && decide (b = 0))) = z.2.2 by simp]
    exact ab_rI ok_La_joined rfl (⟨rfl, rfl⟩)
  · obtain rfl : x = 47 := hx.trans (show -(-47 : Int32) = 47 by decide)
    refine ab_T_of (M := m_La_joined) rfl rfl (Nat.le_of_ble_eq_true rfl) ?_
    show ab_Z m_La_joined _ _ _ 0 [_, _, _, _] [] _
    refine ab_go ok_La_joined 1 rfl ?_
    show ab_Z m_La_joined _ _ _ 1 [_, _, _, _] [_] _
    refine ab_go ok_La_joined 1 rfl ?_
    rw [show ab_tgt 42 [10, 2, 14, 6] 14 47 = 14 from by decide]
    show ab_Z m_La_joined _ _ _ 14 [_, _, _, _] [] _
    refine ab_go ok_La_joined 4 rfl ?_
    show ab_Z m_La_joined _ _ _ 18 [_, _, _, _] [_, _, _] _
    rw [lpH_b5]
    refine ab_br ok_La_joined rfl rfl ?_ ?_
    · intro hb
      show ab_Z m_La_joined _ _ _ 19 [_, _, _, _] [_, _] _
      refine ab_go ok_La_joined 3 rfl ?_
      show ab_Z m_La_joined _ _ _ 23 [_, _, _, _] [_, _] _
      have e : (if z.2.2 = true then (1 : Int32) else 0) ||| 1 = if true = true then 1 else 0 := by cases z.2.2 <;> rfl
      rw [e]
      refine ab_go ok_La_joined 1 rfl ?_
      show ab_Z m_La_joined _ _ _ 24 [_, _, _, _] [] _
      rw [lpH_br s 26 z z.2.1 true]
      refine ab_go ok_La_joined 1 rfl ?_
      show ab_Z m_La_joined _ _ _ 25 [_, _, _, _] [_] _
      refine ab_br ok_La_joined rfl rfl ?_ ?_
      · intro _
        show ab_Z m_La_joined _ _ _ 26 [_, _, _, _] [] _
        refine ab_go ok_La_joined 2 rfl ?_
        show ab_Z m_La_joined _ _ _ 31 [_, _, _, _] [_] _
        exact ab_rI ok_La_joined rfl (⟨by subst hb; rfl, by rw [show (z.2.2 || (decide (4 < 5) && decide (b = 0))) = true by simp [hb]]⟩)
      · intro hb2
        show ab_Z m_La_joined _ _ _ 28 [_, _, _, _] [] _
        exact absurd hb hb2
    · intro hb
      show ab_Z m_La_joined _ _ _ 21 [_, _, _, _] [_, _] _
      refine ab_go ok_La_joined 2 rfl ?_
      show ab_Z m_La_joined _ _ _ 23 [_, _, _, _] [_, _] _
      have e : (if z.2.2 = true then (1 : Int32) else 0) ||| 0 = if z.2.2 = true then 1 else 0 := by cases z.2.2 <;> rfl
      rw [e]
      refine ab_ck ok_La_joined rfl rfl (by cases z.2.2 <;> decide) ?_
      show ab_Z m_La_joined _ _ _ 24 [_, _, _, _] [] _
      rw [lpH_br s 26 z z.2.1 z.2.2]
      refine ab_go ok_La_joined 1 rfl ?_
      show ab_Z m_La_joined _ _ _ 25 [_, _, _, _] [_] _
      refine ab_br ok_La_joined rfl rfl ?_ ?_
      · intro hb2
        show ab_Z m_La_joined _ _ _ 26 [_, _, _, _] [] _
        exact absurd hb2 hb
      · intro _
        show ab_Z m_La_joined _ _ _ 28 [_, _, _, _] [] _
        refine ab_go ok_La_joined 2 rfl ?_
        show ab_Z m_La_joined _ _ _ 30 [_, _, _, _] [_, _] _
        refine ab_ck ok_La_joined rfl rfl (hb) ?_
        show ab_Z m_La_joined _ _ _ 31 [_, _, _, _] [_] _
        exact ab_rI ok_La_joined rfl (⟨by show some (Value.int (a / b)) = some (Value.int (if b = 0 then 0 else a / b)); rw [if_neg hb], by rw [show (z.2.2 || (decide (4 < 5) && decide (b = 0))) = z.2.2 by simp [hb]]⟩)
theorem t_La_joined_30 (z : Stk) {k : Nat} (hk2 : 2 ≤ k) (hk5 : k ≤ 5) (n : Nat) (a b x : Int32) (hx : x = -encI (k, n)) : ab_T g_La_joined d (0, 0) [.ref 30, .int x, .int a, .int b] (HA fm X (lpH s 30 z) t) (PI (opF k a b) (HA fm X (lpH s 30 (z.1, z.2.1, z.2.2 || (decide (4 < k) && decide (b = 0)))) t)) := by
  have hk : k = 2 ∨ k = 3 ∨ k = 4 ∨ k = 5 := by omega
  rcases hk with rfl | rfl | rfl | rfl
  · obtain rfl : x = 43 := hx.trans (show -(-43 : Int32) = 43 by decide)
    refine ab_T_of (M := m_La_joined) rfl rfl (Nat.le_of_ble_eq_true rfl) ?_
    show ab_Z m_La_joined _ _ _ 0 [_, _, _, _] [] _
    refine ab_go ok_La_joined 1 rfl ?_
    show ab_Z m_La_joined _ _ _ 1 [_, _, _, _] [_] _
    refine ab_go ok_La_joined 1 rfl ?_
    rw [show ab_tgt 42 [10, 2, 14, 6] 14 43 = 2 from by decide]
    show ab_Z m_La_joined _ _ _ 2 [_, _, _, _] [] _
    refine ab_go ok_La_joined 3 rfl ?_
    show ab_Z m_La_joined _ _ _ 5 [_, _, _, _] [_] _
    rw [show (z.2.2 || (decide (4 < 2) && decide (b = 0))) = z.2.2 by simp]
    exact ab_rI ok_La_joined rfl (⟨rfl, rfl⟩)
  · obtain rfl : x = 45 := hx.trans (show -(-45 : Int32) = 45 by decide)
    refine ab_T_of (M := m_La_joined) rfl rfl (Nat.le_of_ble_eq_true rfl) ?_
    show ab_Z m_La_joined _ _ _ 0 [_, _, _, _] [] _
    refine ab_go ok_La_joined 1 rfl ?_
    show ab_Z m_La_joined _ _ _ 1 [_, _, _, _] [_] _
    refine ab_go ok_La_joined 1 rfl ?_
    rw [show ab_tgt 42 [10, 2, 14, 6] 14 45 = 6 from by decide]
    show ab_Z m_La_joined _ _ _ 6 [_, _, _, _] [] _
    refine ab_go ok_La_joined 3 rfl ?_
    show ab_Z m_La_joined _ _ _ 9 [_, _, _, _] [_] _
    rw [show (z.2.2 || (decide (4 < 3) && decide (b = 0))) = z.2.2 by simp]
    exact ab_rI ok_La_joined rfl (⟨rfl, rfl⟩)
  · obtain rfl : x = 42 := hx.trans (show -(-42 : Int32) = 42 by decide)
    refine ab_T_of (M := m_La_joined) rfl rfl (Nat.le_of_ble_eq_true rfl) ?_
    show ab_Z m_La_joined _ _ _ 0 [_, _, _, _] [] _
    refine ab_go ok_La_joined 1 rfl ?_
    show ab_Z m_La_joined _ _ _ 1 [_, _, _, _] [_] _
    refine ab_go ok_La_joined 1 rfl ?_
    rw [show ab_tgt 42 [10, 2, 14, 6] 14 42 = 10 from by decide]
    show ab_Z m_La_joined _ _ _ 10 [_, _, _, _] [] _
    refine ab_go ok_La_joined 3 rfl ?_
    show ab_Z m_La_joined _ _ _ 13 [_, _, _, _] [_] _
    rw [show (z.2.2 || (decide (4 < 4) && decide (b = 0))) = z.2.2 by simp]
    exact ab_rI ok_La_joined rfl (⟨rfl, rfl⟩)
  · obtain rfl : x = 47 := hx.trans (show -(-47 : Int32) = 47 by decide)
    refine ab_T_of (M := m_La_joined) rfl rfl (Nat.le_of_ble_eq_true rfl) ?_
    show ab_Z m_La_joined _ _ _ 0 [_, _, _, _] [] _
    refine ab_go ok_La_joined 1 rfl ?_
    show ab_Z m_La_joined _ _ _ 1 [_, _, _, _] [_] _
    refine ab_go ok_La_joined 1 rfl ?_
    rw [show ab_tgt 42 [10, 2, 14, 6] 14 47 = 14 from by decide]
    show ab_Z m_La_joined _ _ _ 14 [_, _, _, _] [] _
    refine ab_go ok_La_joined 4 rfl ?_
    show ab_Z m_La_joined _ _ _ 18 [_, _, _, _] [_, _, _] _
    rw [lpH_b5]
    refine ab_br ok_La_joined rfl rfl ?_ ?_
    · intro hb
      show ab_Z m_La_joined _ _ _ 19 [_, _, _, _] [_, _] _
      refine ab_go ok_La_joined 3 rfl ?_
      show ab_Z m_La_joined _ _ _ 23 [_, _, _, _] [_, _] _
      have e : (if z.2.2 = true then (1 : Int32) else 0) ||| 1 = if true = true then 1 else 0 := by cases z.2.2 <;> rfl
      rw [e]
      refine ab_go ok_La_joined 1 rfl ?_
      show ab_Z m_La_joined _ _ _ 24 [_, _, _, _] [] _
      rw [lpH_br s 30 z z.2.1 true]
      refine ab_go ok_La_joined 1 rfl ?_
      show ab_Z m_La_joined _ _ _ 25 [_, _, _, _] [_] _
      refine ab_br ok_La_joined rfl rfl ?_ ?_
      · intro _
        show ab_Z m_La_joined _ _ _ 26 [_, _, _, _] [] _
        refine ab_go ok_La_joined 2 rfl ?_
        show ab_Z m_La_joined _ _ _ 31 [_, _, _, _] [_] _
        exact ab_rI ok_La_joined rfl (⟨by subst hb; rfl, by rw [show (z.2.2 || (decide (4 < 5) && decide (b = 0))) = true by simp [hb]]⟩)
      · intro hb2
        show ab_Z m_La_joined _ _ _ 28 [_, _, _, _] [] _
        exact absurd hb hb2
    · intro hb
      show ab_Z m_La_joined _ _ _ 21 [_, _, _, _] [_, _] _
      refine ab_go ok_La_joined 2 rfl ?_
      show ab_Z m_La_joined _ _ _ 23 [_, _, _, _] [_, _] _
      have e : (if z.2.2 = true then (1 : Int32) else 0) ||| 0 = if z.2.2 = true then 1 else 0 := by cases z.2.2 <;> rfl
      rw [e]
      refine ab_ck ok_La_joined rfl rfl (by cases z.2.2 <;> decide) ?_
      show ab_Z m_La_joined _ _ _ 24 [_, _, _, _] [] _
      rw [lpH_br s 30 z z.2.1 z.2.2]
      refine ab_go ok_La_joined 1 rfl ?_
      show ab_Z m_La_joined _ _ _ 25 [_, _, _, _] [_] _
      refine ab_br ok_La_joined rfl rfl ?_ ?_
      · intro hb2
        show ab_Z m_La_joined _ _ _ 26 [_, _, _, _] [] _
        exact absurd hb2 hb
      · intro _
        show ab_Z m_La_joined _ _ _ 28 [_, _, _, _] [] _
        refine ab_go ok_La_joined 2 rfl ?_
        show ab_Z m_La_joined _ _ _ 30 [_, _, _, _] [_, _] _
        refine ab_ck ok_La_joined rfl rfl (hb) ?_
        show ab_Z m_La_joined _ _ _ 31 [_, _, _, _] [_] _
        exact ab_rI ok_La_joined rfl (⟨by show some (Value.int (a / b)) = some (Value.int (if b = 0 then 0 else a / b)); rw [if_neg hb], by rw [show (z.2.2 || (decide (4 < 5) && decide (b = 0))) = z.2.2 by simp [hb]]⟩)
theorem t_La_joined_34 (z : Stk) {k : Nat} (hk2 : 2 ≤ k) (hk5 : k ≤ 5) (n : Nat) (a b x : Int32) (hx : x = -encI (k, n)) : ab_T g_La_joined d (0, 0) [.ref 34, .int x, .int a, .int b] (HA fm X (lpH s 34 z) t) (PI (opF k a b) (HA fm X (lpH s 34 (z.1, z.2.1, z.2.2 || (decide (4 < k) && decide (b = 0)))) t)) := by
  have hk : k = 2 ∨ k = 3 ∨ k = 4 ∨ k = 5 := by omega
  rcases hk with rfl | rfl | rfl | rfl
  · obtain rfl : x = 43 := hx.trans (show -(-43 : Int32) = 43 by decide)
    refine ab_T_of (M := m_La_joined) rfl rfl (Nat.le_of_ble_eq_true rfl) ?_
    show ab_Z m_La_joined _ _ _ 0 [_, _, _, _] [] _
    refine ab_go ok_La_joined 1 rfl ?_
    show ab_Z m_La_joined _ _ _ 1 [_, _, _, _] [_] _
    refine ab_go ok_La_joined 1 rfl ?_
    rw [show ab_tgt 42 [10, 2, 14, 6] 14 43 = 2 from by decide]
    show ab_Z m_La_joined _ _ _ 2 [_, _, _, _] [] _
    refine ab_go ok_La_joined 3 rfl ?_
    show ab_Z m_La_joined _ _ _ 5 [_, _, _, _] [_] _
    rw [show (z.2.2 || (decide (4 < 2) && decide (b = 0))) = z.2.2 by simp]
    exact ab_rI ok_La_joined rfl (⟨rfl, rfl⟩)
  · obtain rfl : x = 45 := hx.trans (show -(-45 : Int32) = 45 by decide)
    refine ab_T_of (M := m_La_joined) rfl rfl (Nat.le_of_ble_eq_true rfl) ?_
    show ab_Z m_La_joined _ _ _ 0 [_, _, _, _] [] _
    refine ab_go ok_La_joined 1 rfl ?_
    show ab_Z m_La_joined _ _ _ 1 [_, _, _, _] [_] _
    refine ab_go ok_La_joined 1 rfl ?_
    rw [show ab_tgt 42 [10, 2, 14, 6] 14 45 = 6 from by decide]
    show ab_Z m_La_joined _ _ _ 6 [_, _, _, _] [] _
    refine ab_go ok_La_joined 3 rfl ?_
    show ab_Z m_La_joined _ _ _ 9 [_, _, _, _] [_] _
    rw [show (z.2.2 || (decide (4 < 3) && decide (b = 0))) = z.2.2 by simp]
    exact ab_rI ok_La_joined rfl (⟨rfl, rfl⟩)
  · obtain rfl : x = 42 := hx.trans (show -(-42 : Int32) = 42 by decide)
    refine ab_T_of (M := m_La_joined) rfl rfl (Nat.le_of_ble_eq_true rfl) ?_
    show ab_Z m_La_joined _ _ _ 0 [_, _, _, _] [] _
    refine ab_go ok_La_joined 1 rfl ?_
    show ab_Z m_La_joined _ _ _ 1 [_, _, _, _] [_] _
    refine ab_go ok_La_joined 1 rfl ?_
    rw [show ab_tgt 42 [10, 2, 14, 6] 14 42 = 10 from by decide]
    show ab_Z m_La_joined _ _ _ 10 [_, _, _, _] [] _
    refine ab_go ok_La_joined 3 rfl ?_
    show ab_Z m_La_joined _ _ _ 13 [_, _, _, _] [_] _
    rw [show (z.2.2 || (decide (4 < 4) && decide (b = 0))) = z.2.2 by simp]
    exact ab_rI ok_La_joined rfl (⟨rfl, rfl⟩)
  · obtain rfl : x = 47 := hx.trans (show -(-47 : Int32) = 47 by decide)
    refine ab_T_of (M := m_La_joined) rfl rfl (Nat.le_of_ble_eq_true rfl) ?_
    show ab_Z m_La_joined _ _ _ 0 [_, _, _, _] [] _
    refine ab_go ok_La_joined 1 rfl ?_
    show ab_Z m_La_joined _ _ _ 1 [_, _, _, _] [_] _
    refine ab_go ok_La_joined 1 rfl ?_
    rw [show ab_tgt 42 [10, 2, 14, 6] 14 47 = 14 from by decide]
    show ab_Z m_La_joined _ _ _ 14 [_, _, _, _] [] _
    refine ab_go ok_La_joined 4 rfl ?_
    show ab_Z m_La_joined _ _ _ 18 [_, _, _, _] [_, _, _] _
    rw [lpH_b5]
    refine ab_br ok_La_joined rfl rfl ?_ ?_
    · intro hb
      show ab_Z m_La_joined _ _ _ 19 [_, _, _, _] [_, _] _
      refine ab_go ok_La_joined 3 rfl ?_
      show ab_Z m_La_joined _ _ _ 23 [_, _, _, _] [_, _] _
      have e : (if z.2.2 = true then (1 : Int32) else 0) ||| 1 = if true = true then 1 else 0 := by cases z.2.2 <;> rfl
      rw [e]
      refine ab_go ok_La_joined 1 rfl ?_
      show ab_Z m_La_joined _ _ _ 24 [_, _, _, _] [] _
      rw [lpH_br s 34 z z.2.1 true]
      refine ab_go ok_La_joined 1 rfl ?_
      show ab_Z m_La_joined _ _ _ 25 [_, _, _, _] [_] _
      refine ab_br ok_La_joined rfl rfl ?_ ?_
      · intro _
        show ab_Z m_La_joined _ _ _ 26 [_, _, _, _] [] _
        refine ab_go ok_La_joined 2 rfl ?_
        show ab_Z m_La_joined _ _ _ 31 [_, _, _, _] [_] _
        exact ab_rI ok_La_joined rfl (⟨by subst hb; rfl, by rw [show (z.2.2 || (decide (4 < 5) && decide (b = 0))) = true by simp [hb]]⟩)
      · intro hb2
        show ab_Z m_La_joined _ _ _ 28 [_, _, _, _] [] _
        exact absurd hb hb2
    · intro hb
      show ab_Z m_La_joined _ _ _ 21 [_, _, _, _] [_, _] _
      refine ab_go ok_La_joined 2 rfl ?_
      show ab_Z m_La_joined _ _ _ 23 [_, _, _, _] [_, _] _
      have e : (if z.2.2 = true then (1 : Int32) else 0) ||| 0 = if z.2.2 = true then 1 else 0 := by cases z.2.2 <;> rfl
      rw [e]
      refine ab_ck ok_La_joined rfl rfl (by cases z.2.2 <;> decide) ?_
      show ab_Z m_La_joined _ _ _ 24 [_, _, _, _] [] _
      rw [lpH_br s 34 z z.2.1 z.2.2]
      refine ab_go ok_La_joined 1 rfl ?_
      show ab_Z m_La_joined _ _ _ 25 [_, _, _, _] [_] _
      refine ab_br ok_La_joined rfl rfl ?_ ?_
      · intro hb2
        show ab_Z m_La_joined _ _ _ 26 [_, _, _, _] [] _
        exact absurd hb2 hb
      · intro _
        show ab_Z m_La_joined _ _ _ 28 [_, _, _, _] [] _
        refine ab_go ok_La_joined 2 rfl ?_
        show ab_Z m_La_joined _ _ _ 30 [_, _, _, _] [_, _] _
        refine ab_ck ok_La_joined rfl rfl (hb) ?_
        show ab_Z m_La_joined _ _ _ 31 [_, _, _, _] [_] _
        exact ab_rI ok_La_joined rfl (⟨by show some (Value.int (a / b)) = some (Value.int (if b = 0 then 0 else a / b)); rw [if_neg hb], by rw [show (z.2.2 || (decide (4 < 5) && decide (b = 0))) = z.2.2 by simp [hb]]⟩)
end

