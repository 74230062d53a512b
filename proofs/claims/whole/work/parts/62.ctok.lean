/-! the class's tokens -/
def chI (b : Nat → Int32) (L i : Nat) : Int32 := if i < L then nI (byN b i) else -1
theorem chI_and (b : Nat → Int32) (i : Nat) : b i &&& 255 = nI (byN b i) := pk_and (b i) (m := 255) 8 (by decide)
theorem byN_lt (b : Nat → Int32) (i : Nat) : byN b i < 256 := Nat.mod_lt _ (by decide)
theorem ch_lo {b : Nat → Int32} {L i : Nat} (h : i < L) : chN b L i = byN b i := if_pos h
theorem lt_I (b : Nat → Int32) (L i : Nat) : bI (97 ≤ (chI b L i).toInt ∧ (chI b L i).toInt ≤ 122) = bB (ltC (chN b L i)) := by
  unfold chI
  by_cases h : i < L
  · have := byN_lt b i
    rw [if_pos h, ch_lo h, nI_t (by omega)]
    unfold ltC
    by_cases h1 : 97 ≤ byN b i ∧ byN b i ≤ 122
    · rw [bI_t (by omega), decide_eq_true h1.1, decide_eq_true h1.2]; rfl
    · rw [bI_f (by omega)]
      by_cases h2 : 97 ≤ byN b i
      · rw [decide_eq_false (fun z => h1 ⟨h2, z⟩), Bool.and_false]; rfl
      · rw [decide_eq_false h2]; rfl
  · rw [if_neg h, ch_hi (by omega)]; decide
theorem dg_I (b : Nat → Int32) (L i : Nat) : bI (48 ≤ (chI b L i).toInt ∧ (chI b L i).toInt ≤ 57) = bB (dgC (chN b L i)) := by
  unfold chI
  by_cases h : i < L
  · have := byN_lt b i
    rw [if_pos h, ch_lo h, nI_t (by omega)]
    unfold dgC
    by_cases h1 : 48 ≤ byN b i ∧ byN b i ≤ 57
    · rw [bI_t (by omega), decide_eq_true h1.1, decide_eq_true h1.2]; rfl
    · rw [bI_f (by omega)]
      by_cases h2 : 48 ≤ byN b i
      · rw [decide_eq_false (fun z => h1 ⟨h2, z⟩), Bool.and_false]; rfl
      · rw [decide_eq_false h2]; rfl
  · rw [if_neg h, ch_hi (by omega)]; decide
theorem bl_I (b : Nat → Int32) (L i : Nat) : bI (chI b L i = 9 ∨ chI b L i = 10 ∨ chI b L i = 13 ∨ chI b L i = 32) = bB (blC (chN b L i)) := by
  unfold chI
  by_cases h : i < L
  · have := byN_lt b i
    rw [if_pos h, ch_lo h]
    have e : ∀ m : Nat, m < 256 → (nI (byN b i) = nI m ↔ byN b i = m) := fun m hm => nI_eq (by omega) (by omega)
    have e9 : nI (byN b i) = 9 ↔ byN b i = 9 := e 9 (by decide)
    have e10 : nI (byN b i) = 10 ↔ byN b i = 10 := e 10 (by decide)
    have e13 : nI (byN b i) = 13 ↔ byN b i = 13 := e 13 (by decide)
    have e32 : nI (byN b i) = 32 ↔ byN b i = 32 := e 32 (by decide)
    unfold blC
    by_cases h1 : byN b i = 9 ∨ byN b i = 10 ∨ byN b i = 13 ∨ byN b i = 32
    · rw [bI_t (h1.imp e9.mpr (fun z => z.imp e10.mpr (fun z => z.imp e13.mpr e32.mpr)))]
      rcases h1 with h1 | h1 | h1 | h1 <;> rw [h1] <;> rfl
    · rw [bI_f (fun z => h1 (z.imp e9.mp (fun z => z.imp e10.mp (fun z => z.imp e13.mp e32.mp))))]
      have h2 : byN b i ≠ 9 ∧ byN b i ≠ 10 ∧ byN b i ≠ 13 ∧ byN b i ≠ 32 := by omega
      rw [decide_eq_false h2.1, decide_eq_false h2.2.1, decide_eq_false h2.2.2.1, decide_eq_false h2.2.2.2]
      rfl
  · rw [if_neg h, ch_hi (by omega)]; decide
def sgN : Nat → Nat
  | 0 => 59 | 1 => 61 | 2 => 43 | 3 => 45 | 4 => 42 | 5 => 47 | 6 => 60 | 7 => 40 | _ => 41
theorem sg_b : ∀ x, x < 256 → ∀ i, i < 9 → ((ab_byt.getD 1 []).getD i 0 = (nI x).toInt8.toInt32 ↔ x = sgN i) := by decide +kernel
theorem sg_s : ∀ x, x < 256 → (sgC x = true ↔ ∃ i, i < 9 ∧ x = sgN i) := by decide +kernel
section
variable (d : Nat) (fm : Value) (X : Nat × (Nat → Int32)) (s : Nat → Nat → Int32) (t : Nat → Nat → Int64)
theorem t_To_isLetter (h : ab_H) (x : Int32) : ab_T g_To_isLetter d (0, 0) [.int x] h (PI (bI (97 ≤ x.toInt ∧ x.toInt ≤ 122)) h) := by
  refine ab_T_of (M := m_To_isLetter) rfl rfl (Nat.le_of_ble_eq_true rfl) ?_
  show ab_Z m_To_isLetter _ _ _ 0 [_] [] _
  refine ab_go ok_To_isLetter 2 rfl ?_
  show ab_Z m_To_isLetter _ _ _ 2 [_] [_, _] _
  refine ab_br ok_To_isLetter rfl rfl ?_ ?_
  · intro h1
    show ab_Z m_To_isLetter _ _ _ 8 [_] [] _
    refine ab_go ok_To_isLetter 1 rfl ?_
    show ab_Z m_To_isLetter _ _ _ 9 [_] [_] _
    exact ab_rZ ok_To_isLetter rfl (by first | decide | exact bB_01 _ | exact bI_01 _) (⟨by rw [bI_f (by have := i_ltR (z := 97) rfl h1; omega)], rfl⟩)
  · intro h1
    show ab_Z m_To_isLetter _ _ _ 3 [_] [] _
    refine ab_go ok_To_isLetter 2 rfl ?_
    show ab_Z m_To_isLetter _ _ _ 5 [_] [_, _] _
    refine ab_br ok_To_isLetter rfl rfl ?_ ?_
    · intro h2
      show ab_Z m_To_isLetter _ _ _ 8 [_] [] _
      refine ab_go ok_To_isLetter 1 rfl ?_
      show ab_Z m_To_isLetter _ _ _ 9 [_] [_] _
      exact ab_rZ ok_To_isLetter rfl (by first | decide | exact bB_01 _ | exact bI_01 _) (⟨by rw [bI_f (by have := i_ltK (z := 122) rfl h2; omega)], rfl⟩)
    · intro h2
      show ab_Z m_To_isLetter _ _ _ 6 [_] [] _
      refine ab_go ok_To_isLetter 2 rfl ?_
      show ab_Z m_To_isLetter _ _ _ 9 [_] [_] _
      exact ab_rZ ok_To_isLetter rfl (by first | decide | exact bB_01 _ | exact bI_01 _) (⟨by rw [bI_t (by have := i_nltR (z := 97) rfl h1; have := i_nltK (z := 122) rfl h2; omega)], rfl⟩)
theorem t_To_isDigit (h : ab_H) (x : Int32) : ab_T g_To_isDigit d (0, 0) [.int x] h (PI (bI (48 ≤ x.toInt ∧ x.toInt ≤ 57)) h) := by
  refine ab_T_of (M := m_To_isDigit) rfl rfl (Nat.le_of_ble_eq_true rfl) ?_
  show ab_Z m_To_isDigit _ _ _ 0 [_] [] _
  refine ab_go ok_To_isDigit 2 rfl ?_
  show ab_Z m_To_isDigit _ _ _ 2 [_] [_, _] _
  refine ab_br ok_To_isDigit rfl rfl ?_ ?_
  · intro h1
    show ab_Z m_To_isDigit _ _ _ 8 [_] [] _
    refine ab_go ok_To_isDigit 1 rfl ?_
    show ab_Z m_To_isDigit _ _ _ 9 [_] [_] _
    exact ab_rZ ok_To_isDigit rfl (by first | decide | exact bB_01 _ | exact bI_01 _) (⟨by rw [bI_f (by have := i_ltR (z := 48) rfl h1; omega)], rfl⟩)
  · intro h1
    show ab_Z m_To_isDigit _ _ _ 3 [_] [] _
    refine ab_go ok_To_isDigit 2 rfl ?_
    show ab_Z m_To_isDigit _ _ _ 5 [_] [_, _] _
    refine ab_br ok_To_isDigit rfl rfl ?_ ?_
    · intro h2
      show ab_Z m_To_isDigit _ _ _ 8 [_] [] _
      refine ab_go ok_To_isDigit 1 rfl ?_
      show ab_Z m_To_isDigit _ _ _ 9 [_] [_] _
      exact ab_rZ ok_To_isDigit rfl (by first | decide | exact bB_01 _ | exact bI_01 _) (⟨by rw [bI_f (by have := i_ltK (z := 57) rfl h2; omega)], rfl⟩)
    · intro h2
      show ab_Z m_To_isDigit _ _ _ 6 [_] [] _
      refine ab_go ok_To_isDigit 2 rfl ?_
      show ab_Z m_To_isDigit _ _ _ 9 [_] [_] _
      exact ab_rZ ok_To_isDigit rfl (by first | decide | exact bB_01 _ | exact bI_01 _) (⟨by rw [bI_t (by have := i_nltR (z := 48) rfl h1; have := i_nltK (z := 57) rfl h2; omega)], rfl⟩)
theorem t_To_isBlank (h : ab_H) (x : Int32) : ab_T g_To_isBlank d (0, 0) [.int x] h (PI (bI (x = 9 ∨ x = 10 ∨ x = 13 ∨ x = 32)) h) := by
  refine ab_T_of (M := m_To_isBlank) rfl rfl (Nat.le_of_ble_eq_true rfl) ?_
  show ab_Z m_To_isBlank _ _ _ 0 [_] [] _
  refine ab_go ok_To_isBlank 2 rfl ?_
  show ab_Z m_To_isBlank _ _ _ 2 [_] [_, _] _
  refine ab_br ok_To_isBlank rfl rfl ?_ ?_
  · intro h1
    show ab_Z m_To_isBlank _ _ _ 12 [_] [] _
    refine ab_go ok_To_isBlank 2 rfl ?_
    show ab_Z m_To_isBlank _ _ _ 15 [_] [_] _
    exact ab_rZ ok_To_isBlank rfl (by first | decide | exact bB_01 _ | exact bI_01 _) (⟨by rw [bI_t (Or.inl h1)], rfl⟩)
  · intro h1
    show ab_Z m_To_isBlank _ _ _ 3 [_] [] _
    refine ab_go ok_To_isBlank 2 rfl ?_
    show ab_Z m_To_isBlank _ _ _ 5 [_] [_, _] _
    refine ab_br ok_To_isBlank rfl rfl ?_ ?_
    · intro h2
      show ab_Z m_To_isBlank _ _ _ 12 [_] [] _
      refine ab_go ok_To_isBlank 2 rfl ?_
      show ab_Z m_To_isBlank _ _ _ 15 [_] [_] _
      exact ab_rZ ok_To_isBlank rfl (by first | decide | exact bB_01 _ | exact bI_01 _) (⟨by rw [bI_t (Or.inr (Or.inl h2))], rfl⟩)
    · intro h2
      show ab_Z m_To_isBlank _ _ _ 6 [_] [] _
      refine ab_go ok_To_isBlank 2 rfl ?_
      show ab_Z m_To_isBlank _ _ _ 8 [_] [_, _] _
      refine ab_br ok_To_isBlank rfl rfl ?_ ?_
      · intro h3
        show ab_Z m_To_isBlank _ _ _ 12 [_] [] _
        refine ab_go ok_To_isBlank 2 rfl ?_
        show ab_Z m_To_isBlank _ _ _ 15 [_] [_] _
        exact ab_rZ ok_To_isBlank rfl (by first | decide | exact bB_01 _ | exact bI_01 _) (⟨by rw [bI_t (Or.inr (Or.inr (Or.inl h3)))], rfl⟩)
      · intro h3
        show ab_Z m_To_isBlank _ _ _ 9 [_] [] _
        refine ab_go ok_To_isBlank 2 rfl ?_
        show ab_Z m_To_isBlank _ _ _ 11 [_] [_, _] _
        refine ab_br ok_To_isBlank rfl rfl ?_ ?_
        · intro h4
          show ab_Z m_To_isBlank _ _ _ 12 [_] [] _
          refine ab_go ok_To_isBlank 2 rfl ?_
          show ab_Z m_To_isBlank _ _ _ 15 [_] [_] _
          exact ab_rZ ok_To_isBlank rfl (by first | decide | exact bB_01 _ | exact bI_01 _) (⟨by rw [bI_t (Or.inr (Or.inr (Or.inr h4)))], rfl⟩)
        · intro h4
          show ab_Z m_To_isBlank _ _ _ 14 [_] [] _
          refine ab_go ok_To_isBlank 1 rfl ?_
          show ab_Z m_To_isBlank _ _ _ 15 [_] [_] _
          exact ab_rZ ok_To_isBlank rfl (by first | decide | exact bB_01 _ | exact bI_01 _) (⟨by rw [bI_f (fun z => z.elim h1 (fun z => z.elim h2 (fun z => z.elim h3 h4)))], rfl⟩)
theorem t_To_withLetter (h : ab_H) {a c : Nat} (hc : 97 ≤ c) (hc2 : c < 256) : ab_T g_To_withLetter d (0, 0) [.long (lN a), .int (nI c)] h (PL (lN (a * 32 + (c - 96))) h) := by
  refine ab_T_of (M := m_To_withLetter) rfl rfl (Nat.le_of_ble_eq_true rfl) ?_
  show ab_Z m_To_withLetter _ _ _ 0 [_, _, _] [] _
  refine ab_go ok_To_withLetter 10 rfl ?_
  show ab_Z m_To_withLetter _ _ _ 10 [_, _, _] [_] _
  exact ab_rL ok_To_withLetter rfl (⟨by rw [nI_l (by omega), show (32 : Int64) = lN 32 from rfl, show (97 : Int64) = lN 97 from rfl, lN_mul, lN_add, lN_sub (by omega), lN_1]; congr 3; omega, rfl⟩)
theorem t_Ta_byteAt {L i : Nat} (hL : s 1 1 = nI L) (h2 : L ≤ 2000) (hi : i < 100000) : ab_T g_Ta_byteAt d (0, 0) [.ref 1, .int (nI i)] (HA fm X s t) (PI (chI (s 2) L i) (HA fm X s t)) := by
  refine ab_T_of (M := m_Ta_byteAt) rfl rfl (Nat.le_of_ble_eq_true rfl) ?_
  show ab_Z m_Ta_byteAt _ _ _ 0 [_, _] [] _
  refine ab_go ok_Ta_byteAt 1 rfl ?_
  show ab_Z m_Ta_byteAt _ _ _ 1 [_, _] [_] _
  refine ab_br ok_Ta_byteAt rfl rfl ?_ ?_
  · intro h1
    show ab_Z m_Ta_byteAt _ _ _ 18 [_, _] [] _
    exact absurd h1 (nI_l0 (by omega))
  · intro h1
    show ab_Z m_Ta_byteAt _ _ _ 2 [_, _] [] _
    refine ab_go ok_Ta_byteAt 3 rfl ?_
    show ab_Z m_Ta_byteAt _ _ _ 5 [_, _] [_, _] _
    rw [hL]
    refine ab_br ok_Ta_byteAt rfl rfl ?_ ?_
    · intro h3
      show ab_Z m_Ta_byteAt _ _ _ 18 [_, _] [] _
      have h3' := (nI_leI (by omega) (by omega)).mp h3
      refine ab_go ok_Ta_byteAt 1 rfl ?_
      show ab_Z m_Ta_byteAt _ _ _ 19 [_, _] [_] _
      exact ab_rI ok_Ta_byteAt rfl (⟨by unfold chI; rw [if_neg (by omega)], rfl⟩)
    · intro h3
      show ab_Z m_Ta_byteAt _ _ _ 6 [_, _] [] _
      have h3' : i < L := by
        rcases Nat.lt_or_ge i L with h | h
        · exact h
        · exact absurd ((nI_leI (by omega) (by omega)).mpr h) h3
      refine ab_go ok_Ta_byteAt 4 rfl ?_
      show ab_Z m_Ta_byteAt _ _ _ 10 [_, _] [_, _] _
      refine ab_br ok_Ta_byteAt rfl rfl ?_ ?_
      · intro h4
        show ab_Z m_Ta_byteAt _ _ _ 18 [_, _] [] _
        exact absurd h4 (lp_in (N := 2000) (by decide) (by omega))
      · intro h4
        show ab_Z m_Ta_byteAt _ _ _ 11 [_, _] [] _
        refine ab_go ok_Ta_byteAt 3 rfl ?_
        show ab_Z m_Ta_byteAt _ _ _ 14 [_, _] [_, _] _
        first | (refine ab_ba1 ok_Ta_byteAt rfl rfl (k := i) (by first | rfl | (simp only [LL1, LL2, LL3, LL4, LL5, LL6, LL7, LL8, LL10, LL15, LL18, LL20, LL21, LL22, LL23, LL24, LL32, LL39, LL40, LL130, LL420, pk_mul, nI_add]; done) | (simp only [LL1, LL2, LL3, LL4, LL5, LL6, LL7, LL8, LL10, LL15, LL18, LL20, LL21, LL22, LL23, LL24, LL32, LL39, LL40, LL130, LL420, pk_mul, nI_add]; congr 1; omega)) (by omega) (Nat.le_of_ble_eq_true rfl) ?_) | (refine ab_ba2 ok_Ta_byteAt rfl rfl (k := i) (by first | rfl | (simp only [LL1, LL2, LL3, LL4, LL5, LL6, LL7, LL8, LL10, LL15, LL18, LL20, LL21, LL22, LL23, LL24, LL32, LL39, LL40, LL130, LL420, pk_mul, nI_add]; done) | (simp only [LL1, LL2, LL3, LL4, LL5, LL6, LL7, LL8, LL10, LL15, LL18, LL20, LL21, LL22, LL23, LL24, LL32, LL39, LL40, LL130, LL420, pk_mul, nI_add]; congr 1; omega)) (by omega) (Nat.le_of_ble_eq_true rfl) ?_)
        show ab_Z m_Ta_byteAt _ _ _ 15 [_, _] [_] _
        refine ab_go ok_Ta_byteAt 3 rfl ?_
        show ab_Z m_Ta_byteAt _ _ _ 19 [_, _] [_] _
        exact ab_rI ok_Ta_byteAt rfl (⟨by unfold chI; rw [if_pos h3', chI_and], rfl⟩)
theorem t_To_behindBlanks {L i : Nat} (hL : s 1 1 = nI L) (h2 : L ≤ 2000) (hi : i ≤ L) : ab_T g_To_behindBlanks (d + 1) (0, 0) [.ref 1, .int (nI i)] (HA fm X s t) (PI (nI (bkE (s 2) L i)) (HA fm X s t)) := by
  obtain ⟨r1, r2, r3, r4⟩ := bk_E (s 2) hi
  generalize bkE (s 2) L i = e at r1 r2 r3 r4 ⊢
  refine ab_T_of (M := m_To_behindBlanks) rfl rfl (Nat.le_of_ble_eq_true rfl) ?_
  show ab_Z m_To_behindBlanks _ _ _ 0 [_, _, _] [] _
  refine ab_go ok_To_behindBlanks 2 rfl ?_
  show ab_Z m_To_behindBlanks _ _ _ 2 [_, _, _] [] _
  refine lp_dn (e - i) (fun k => ab_Z m_To_behindBlanks (d + 1) (0, 0) (PI (nI e) (HA fm X s t)) 2 [some (.ref 1), none, some (.int (nI (i + k)))] [] (HA fm X s t)) ?_ ?_
  · rw [show i + (e - i) = e by omega]
    refine ab_go ok_To_behindBlanks 2 rfl ?_
    show ab_Z m_To_behindBlanks _ _ _ 4 [_, _, _] [_, _] _
    refine ab_br ok_To_behindBlanks rfl rfl ?_ ?_
    · intro h1
      show ab_Z m_To_behindBlanks _ _ _ 12 [_, _, _] [] _
      refine ab_go ok_To_behindBlanks 1 rfl ?_
      show ab_Z m_To_behindBlanks _ _ _ 13 [_, _, _] [_] _
      exact ab_rI ok_To_behindBlanks rfl (⟨rfl, rfl⟩)
    · intro h1
      show ab_Z m_To_behindBlanks _ _ _ 5 [_, _, _] [] _
      refine ab_go ok_To_behindBlanks 2 rfl ?_
      show ab_Z m_To_behindBlanks _ _ _ 7 [_, _, _] [_, _] _
      refine ab_cl ok_To_behindBlanks rfl [_, _] [] rfl ⟨_, _, rfl, rfl, Or.inl ⟨_, _, rfl, rfl⟩⟩ (Nat.le_of_ble_eq_true rfl) (t_Ta_byteAt d fm X s t hL h2 (show e < 100000 by omega)) ?_
      rintro _ _ ⟨rfl, rfl⟩
      show ab_Z m_To_behindBlanks _ _ _ 8 [_, _, _] [_] _
      refine ab_cl ok_To_behindBlanks rfl [_] [] rfl rfl (Nat.le_of_ble_eq_true rfl) (t_To_isBlank d _ _) ?_
      rintro _ _ ⟨rfl, rfl⟩
      show ab_Z m_To_behindBlanks _ _ _ 9 [_, _, _] [_] _
      rw [bl_I, r4]
      refine ab_go ok_To_behindBlanks 1 rfl ?_
      show ab_Z m_To_behindBlanks _ _ _ 12 [_, _, _] [] _
      refine ab_go ok_To_behindBlanks 1 rfl ?_
      show ab_Z m_To_behindBlanks _ _ _ 13 [_, _, _] [_] _
      exact ab_rI ok_To_behindBlanks rfl (⟨rfl, rfl⟩)
  · intro k hk ih
    refine ab_go ok_To_behindBlanks 2 rfl ?_
    show ab_Z m_To_behindBlanks _ _ _ 4 [_, _, _] [_, _] _
    refine ab_br ok_To_behindBlanks rfl rfl ?_ ?_
    · intro h1
      show ab_Z m_To_behindBlanks _ _ _ 12 [_, _, _] [] _
      exact absurd h1 (lp_in (N := 2000) (by decide) (by omega))
    · intro h1
      show ab_Z m_To_behindBlanks _ _ _ 5 [_, _, _] [] _
      refine ab_go ok_To_behindBlanks 2 rfl ?_
      show ab_Z m_To_behindBlanks _ _ _ 7 [_, _, _] [_, _] _
      refine ab_cl ok_To_behindBlanks rfl [_, _] [] rfl ⟨_, _, rfl, rfl, Or.inl ⟨_, _, rfl, rfl⟩⟩ (Nat.le_of_ble_eq_true rfl) (t_Ta_byteAt d fm X s t hL h2 (show i + k < 100000 by omega)) ?_
      rintro _ _ ⟨rfl, rfl⟩
      show ab_Z m_To_behindBlanks _ _ _ 8 [_, _, _] [_] _
      refine ab_cl ok_To_behindBlanks rfl [_] [] rfl rfl (Nat.le_of_ble_eq_true rfl) (t_To_isBlank d _ _) ?_
      rintro _ _ ⟨rfl, rfl⟩
      show ab_Z m_To_behindBlanks _ _ _ 9 [_, _, _] [_] _
      rw [bl_I, r3 (i + k) (by omega) (by omega)]
      refine ab_go ok_To_behindBlanks 1 rfl ?_
      show ab_Z m_To_behindBlanks _ _ _ 10 [_, _, _] [] _
      refine ab_go ok_To_behindBlanks 2 rfl ?_
      show ab_Z m_To_behindBlanks _ _ _ 2 [_, _, _] [] _
      rw [← Nat.add_assoc, nI_succ] at ih
      exact ih
theorem t_JL_canEncode (h : ab_H) {c : Nat} (hc : c < 256) : ab_T g_JL_canEncode d (0, 0) [.int (nI c)] h (PI 1 h) := by
  refine ab_T_of (M := m_JL_canEncode) rfl rfl (Nat.le_of_ble_eq_true rfl) ?_
  show ab_Z m_JL_canEncode _ _ _ 0 [_] [] _
  refine ab_go ok_JL_canEncode 1 rfl ?_
  show ab_Z m_JL_canEncode _ _ _ 1 [_] [_] _
  refine ab_br ok_JL_canEncode rfl rfl ?_ ?_
  · intro h1
    show ab_Z m_JL_canEncode _ _ _ 7 [_] [] _
    exact absurd h1 (nI_l0 (by omega))
  · intro h1
    show ab_Z m_JL_canEncode _ _ _ 2 [_] [] _
    refine ab_go ok_JL_canEncode 2 rfl ?_
    show ab_Z m_JL_canEncode _ _ _ 4 [_] [_, _] _
    refine ab_br ok_JL_canEncode rfl rfl ?_ ?_
    · intro h2
      show ab_Z m_JL_canEncode _ _ _ 7 [_] [] _
      have := i_ltK (z := 255) rfl h2
      rw [nI_t (by omega)] at this
      omega
    · intro h2
      show ab_Z m_JL_canEncode _ _ _ 5 [_] [] _
      refine ab_go ok_JL_canEncode 2 rfl ?_
      show ab_Z m_JL_canEncode _ _ _ 8 [_] [_] _
      exact ab_rZ ok_JL_canEncode rfl (by first | decide | exact bB_01 _ | exact bI_01 _) (⟨rfl, rfl⟩)
theorem t_JL_indexOfChar {c : Nat} (hc : c < 256) : ab_T g_JL_indexOfChar d (0, 0) [.ref 9005, .int (nI c), .int 0, .int 9] (HA fm X s t) (fun v h => h = HA fm X s t ∧ ∃ r : Int32, v = some (.int r) ∧ (r < 0 ↔ sgC c = false)) := by
  refine ab_T_of (M := m_JL_indexOfChar) rfl rfl (Nat.le_of_ble_eq_true rfl) ?_
  show ab_Z m_JL_indexOfChar _ _ _ 0 [_, _, _, _, _, _] [] _
  refine ab_go ok_JL_indexOfChar 5 rfl ?_
  show ab_Z m_JL_indexOfChar _ _ _ 5 [_, _, _, _, _, _] [] _
  refine lp_dn 9 (fun k => (∀ j, j < k → c ≠ sgN j) → ab_Z m_JL_indexOfChar d (0, 0) (fun v h => h = HA fm X s t ∧ ∃ r : Int32, v = some (.int r) ∧ (r < 0 ↔ sgC c = false)) 5 [some (.ref 9005), none, none, some (.int 9), some (.int (nI c).toInt8.toInt32), some (.int (nI k))] [] (HA fm X s t)) ?_ ?_ (fun j hj => absurd hj (by omega))
  · intro hn
    refine ab_go ok_JL_indexOfChar 2 rfl ?_
    show ab_Z m_JL_indexOfChar _ _ _ 7 [_, _, _, _, _, _] [_, _] _
    refine ab_go ok_JL_indexOfChar 1 rfl ?_
    show ab_Z m_JL_indexOfChar _ _ _ 17 [_, _, _, _, _, _] [] _
    refine ab_go ok_JL_indexOfChar 1 rfl ?_
    show ab_Z m_JL_indexOfChar _ _ _ 18 [_, _, _, _, _, _] [_] _
    have hno : sgC c = false := by
      cases hx : sgC c
      · rfl
      · obtain ⟨i, h1, h2⟩ := (sg_s c hc).mp hx
        exact absurd h2 (hn i h1)
    exact ab_rI ok_JL_indexOfChar rfl (⟨rfl, -1, rfl, ⟨fun _ => hno, fun _ => by decide⟩⟩)
  · intro k hk ih hn
    refine ab_go ok_JL_indexOfChar 2 rfl ?_
    show ab_Z m_JL_indexOfChar _ _ _ 7 [_, _, _, _, _, _] [_, _] _
    refine ab_br ok_JL_indexOfChar rfl rfl ?_ ?_
    · intro h1
      show ab_Z m_JL_indexOfChar _ _ _ 17 [_, _, _, _, _, _] [] _
      exact absurd h1 (lp_in (N := 9) (by decide) hk)
    · intro h1
      show ab_Z m_JL_indexOfChar _ _ _ 8 [_, _, _, _, _, _] [] _
      refine ab_go ok_JL_indexOfChar 2 rfl ?_
      show ab_Z m_JL_indexOfChar _ _ _ 10 [_, _, _, _, _, _] [_, _] _
      refine ab_ck ok_JL_indexOfChar rfl rfl (by rw [nI_t (by omega)]; omega) ?_
      show ab_Z m_JL_indexOfChar _ _ _ 11 [_, _, _, _, _, _] [_] _
      rw [nI_c (by omega)]
      refine ab_go ok_JL_indexOfChar 1 rfl ?_
      show ab_Z m_JL_indexOfChar _ _ _ 12 [_, _, _, _, _, _] [_, _] _
      refine ab_br ok_JL_indexOfChar rfl rfl ?_ ?_
      · intro h2
        show ab_Z m_JL_indexOfChar _ _ _ 13 [_, _, _, _, _, _] [] _
        have h2' := (sg_b c hc k hk).mp h2
        refine ab_go ok_JL_indexOfChar 1 rfl ?_
        show ab_Z m_JL_indexOfChar _ _ _ 14 [_, _, _, _, _, _] [_] _
        exact ab_rI ok_JL_indexOfChar rfl (⟨rfl, nI k, rfl, ⟨fun z => absurd z (nI_l0 (by omega)), fun z => by rw [(sg_s c hc).mpr ⟨k, hk, h2'⟩] at z; cases z⟩⟩)
      · intro h2
        show ab_Z m_JL_indexOfChar _ _ _ 15 [_, _, _, _, _, _] [] _
        have h2' : c ≠ sgN k := fun z => h2 ((sg_b c hc k hk).mpr z)
        have ih2 := ih (fun j hj => by
          by_cases hjk : j = k
          · rw [hjk]; exact h2'
          · exact hn j (by omega))
        rw [nI_succ] at ih2
        refine ab_go ok_JL_indexOfChar 2 rfl ?_
        show ab_Z m_JL_indexOfChar _ _ _ 5 [_, _, _, _, _, _] [] _
        exact ih2
theorem t_JL_indexOf {c : Nat} (hc : c < 256) : ab_T g_JL_indexOf (d + 1) (0, 0) [.ref 9005, .int (nI c), .int 0, .int 9] (HA fm X s t) (fun v h => h = HA fm X s t ∧ ∃ r : Int32, v = some (.int r) ∧ (r < 0 ↔ sgC c = false)) := by
  refine ab_T_of (M := m_JL_indexOf) rfl rfl (Nat.le_of_ble_eq_true rfl) ?_
  show ab_Z m_JL_indexOf _ _ _ 0 [_, _, _, _] [] _
  refine ab_go ok_JL_indexOf 1 rfl ?_
  show ab_Z m_JL_indexOf _ _ _ 1 [_, _, _, _] [_] _
  refine ab_cl ok_JL_indexOf rfl [_] [] rfl rfl (Nat.le_of_ble_eq_true rfl) (t_JL_canEncode d _ hc) ?_
  rintro _ _ ⟨rfl, rfl⟩
  show ab_Z m_JL_indexOf _ _ _ 2 [_, _, _, _] [_] _
  refine ab_go ok_JL_indexOf 1 rfl ?_
  show ab_Z m_JL_indexOf _ _ _ 5 [_, _, _, _] [] _
  refine ab_go ok_JL_indexOf 2 rfl ?_
  show ab_Z m_JL_indexOf _ _ _ 7 [_, _, _, _] [_, _] _
  refine ab_cl ok_JL_indexOf rfl [_, _] [] rfl rfl (Nat.le_of_ble_eq_true rfl) (t_JM_max d _ 0 0) ?_
  rintro _ _ ⟨rfl, rfl⟩
  show ab_Z m_JL_indexOf _ _ _ 8 [_, _, _, _] [_] _
  refine ab_go ok_JL_indexOf 4 rfl ?_
  show ab_Z m_JL_indexOf _ _ _ 12 [_, _, _, _] [_, _] _
  refine ab_cl ok_JL_indexOf rfl [_, _] [] rfl rfl (Nat.le_of_ble_eq_true rfl) (t_JM_min d _ 9 9) ?_
  rintro _ _ ⟨rfl, rfl⟩
  show ab_Z m_JL_indexOf _ _ _ 13 [_, _, _, _] [_] _
  refine ab_go ok_JL_indexOf 3 rfl ?_
  show ab_Z m_JL_indexOf _ _ _ 16 [_, _, _, _] [_, _] _
  refine ab_go ok_JL_indexOf 1 rfl ?_
  show ab_Z m_JL_indexOf _ _ _ 19 [_, _, _, _] [] _
  refine ab_go ok_JL_indexOf 4 rfl ?_
  show ab_Z m_JL_indexOf _ _ _ 23 [_, _, _, _] [_, _, _, _] _
  refine ab_cl ok_JL_indexOf rfl [_, _, _, _] [] rfl rfl (Nat.le_of_ble_eq_true rfl) (t_JL_indexOfChar d fm X s t hc) ?_
  rintro _ _ ⟨rfl, r, rfl, hr⟩
  show ab_Z m_JL_indexOf _ _ _ 24 [_, _, _, _] [_] _
  exact ab_rI ok_JL_indexOf rfl (⟨rfl, r, rfl, hr⟩)
theorem t_JS_isLatin1 (h : ab_H) : ab_T g_JS_isLatin1 d (0, 0) [.ref 9003] h (PI 1 h) := by
  refine ab_T_of (M := m_JS_isLatin1) rfl rfl (Nat.le_of_ble_eq_true rfl) ?_
  show ab_Z m_JS_isLatin1 _ _ _ 0 [_] [] _
  refine ab_go ok_JS_isLatin1 1 rfl ?_
  show ab_Z m_JS_isLatin1 _ _ _ 1 [_] [_] _
  refine ab_go ok_JS_isLatin1 1 rfl ?_
  show ab_Z m_JS_isLatin1 _ _ _ 2 [_] [] _
  refine ab_go ok_JS_isLatin1 2 rfl ?_
  show ab_Z m_JS_isLatin1 _ _ _ 4 [_] [_] _
  refine ab_go ok_JS_isLatin1 1 rfl ?_
  show ab_Z m_JS_isLatin1 _ _ _ 5 [_] [] _
  refine ab_go ok_JS_isLatin1 2 rfl ?_
  show ab_Z m_JS_isLatin1 _ _ _ 8 [_] [_] _
  exact ab_rZ ok_JS_isLatin1 rfl (by first | decide | exact bB_01 _ | exact bI_01 _) (⟨rfl, rfl⟩)
end

