theorem ltC_r {c : Nat} (h : ltC c = true) : 97 ≤ c ∧ c ≤ 122 := by
  unfold ltC at h
  simp only [Bool.and_eq_true, decide_eq_true_eq] at h
  exact h
theorem dgC_r {c : Nat} (h : dgC c = true) : 48 ≤ c ∧ c ≤ 57 := by
  unfold dgC at h
  simp only [Bool.and_eq_true, decide_eq_true_eq] at h
  exact h
theorem chI_in {b : Nat → Int32} {L i : Nat} (h : chN b L i < 256) : chI b L i = nI (chN b L i) ∧ i < L := by
  have hi : i < L := by
    rcases Nat.lt_or_ge i L with h1 | h1
    · exact h1
    · rw [ch_hi h1] at h; omega
  unfold chI
  rw [if_pos hi, ch_lo hi]
  exact ⟨rfl, hi⟩
theorem iv_lt {b : Nat → Int32} {L j : Nat} : ∀ {n : Nat}, (∀ k, k < n → dgC (chN b L (j + k)) = true) → ivN b L j n < 10 ^ n
  | 0, _ => by rw [ivN, Nat.pow_zero]; omega
  | n + 1, h => by
    have h1 := iv_lt (n := n) (fun k hk => h k (by omega))
    have h2 := dgC_r (h n (by omega))
    rw [ivN, Nat.pow_succ]
    omega
theorem tkV_lt {b : Nat → Int32} {L j : Nat} (hj : j < L) (h : tkK b L j = 3) : tkV' b L j < 10000 := by
  unfold tkK at h
  by_cases h1 : ltC (chN b L j) = true
  · rw [if_pos h1] at h
    split at h
    · omega
    · rcases wk_r (ltL b L j (ltE b L j - j)) wdL 0 with h2 | ⟨i, -, h2, -⟩ <;> omega
  · rw [if_neg h1] at h
    by_cases h2 : dgC (chN b L j) = true
    · rw [if_pos h2] at h
      have hr := dg_E b (show j ≤ L by omega)
      split at h
      · omega
      · rename_i h4
        unfold tkV'
        have h5 := iv_lt (b := b) (L := L) (j := j) (n := dgE b L j - j) (fun k hk => hr.2.2.1 (j + k) (by omega) (by omega))
        exact Nat.lt_of_lt_of_le h5 (Nat.pow_le_pow_right (by decide) (by omega) : 10 ^ (dgE b L j - j) ≤ 10 ^ 4)
    · rw [if_neg h2] at h
      split at h
      · omega
      · split at h
        · rename_i h5
          rw [h] at h5
          exact absurd h5 (by decide)
        · omega
section
variable (d : Nat) (fm : Value) (X : Nat × (Nat → Int32)) (s : Nat → Nat → Int32) (t : Nat → Nat → Int64)
abbrev PTk (r : Int32) (fm : Value) (X : Nat × (Nat → Int32)) (s : Nat → Nat → Int32) (t : Nat → Nat → Int64) (b : Nat → Int32) (L N : Nat) : Option Value → ab_H → Prop := fun v h => v = some (.int r) ∧ ∃ s' t', h = HA fm X s' t' ∧ KT s s' ∧ KTt t t' ∧ TkS b L s' t' N
theorem t_To_scanLetters {b : Nat → Int32} (hb : b = s 2) {L j N : Nat} (hW : WdC t) (hL : s 1 1 = nI L) (h2 : L ≤ 2000) (hN : TkS b L s t N) (hN4 : N < 401) (hj : j = tkP b L N) (hjL : j < L) (hc : ltC (chN b L j) = true) : ab_T g_To_scanLetters (d + 2) (0, 0) [.ref 3, .ref 1, .int (nI j)] (HA fm X s t) (PTk (nI (tkE b L j)) fm X s t b L (N + 1)) := by
  have hr := lt_E b (show j ≤ L by omega)
  have hK : tkK b L j = if 8 < ltE b L j - j then 1 else wkF (ltL b L j (ltE b L j - j)) wdL 0 := by unfold tkK; rw [if_pos hc]
  have hE : tkE b L j = ltE b L j := by unfold tkE; rw [if_pos hc]
  have hNm : tkN b L j = ltL b L j (ltE b L j - j) := rfl
  rw [hE]
  generalize ltE b L j = e at hr hK hNm ⊢
  obtain ⟨r1, r2, r3, r4⟩ := hr
  generalize hPo : PTk (nI e) fm X s t b L (N + 1) = Po
  have fin : ∀ v, v = lN (cdL 32 (ltL b L j (e - j))) → Po (some (.int (nI e))) (HA fm X (addS s N (nI (tkK b L j)) (nI j)) (ab_up t 6 N v)) := by
    intro v hv
    rw [← hPo]
    refine ⟨rfl, _, _, rfl, addS_k s N _ _, fun c hc' => ab_up_o hc', ?_⟩
    rw [hj]
    refine TkS.add hN (fun z => ?_) (fun z => by rw [← hj, hNm, hv])
    rw [← hj, hK] at z
    split at z
    · omega
    · rcases wk_r (ltL b L j (e - j)) wdL 0 with h3 | ⟨i, -, h3, -⟩ <;> omega
  refine ab_T_of (M := m_To_scanLetters) rfl rfl (Nat.le_of_ble_eq_true rfl) ?_
  show ab_Z m_To_scanLetters _ _ _ 0 [_, _, _, _, _, _] [] _
  refine ab_go ok_To_scanLetters 4 rfl ?_
  show ab_Z m_To_scanLetters _ _ _ 4 [_, _, _, _, _, _] [] _
  have := lp_dn (e - j) (fun k => ab_Z m_To_scanLetters (d + 2) (0, 0) Po 4 [some (.ref 3), some (.ref 1), some (.int (nI j)), some (.long (lN (cdL 32 (ltL b L j k)))), none, some (.int (nI (j + k)))] [] (HA fm X s t)) ?_ ?_
  · exact this
  · rw [show j + (e - j) = e by omega]
    have tail : ∀ kd : Int32, kd = nI (tkK b L j) → ab_Z m_To_scanLetters (d + 2) (0, 0) Po 31 [some (.ref 3), some (.ref 1), some (.int (nI j)), some (.long (lN (cdL 32 (ltL b L j (e - j))))), none, some (.int (nI e))] [.int kd, .ref 3] (HA fm X s t) := by
      intro kd hkd
      subst hkd
      refine ab_go ok_To_scanLetters 2 rfl ?_
      show ab_Z m_To_scanLetters _ _ _ 33 [_, _, _, _, _, _] [_, _, _, _] _
      refine ab_cl ok_To_scanLetters rfl [_, _, _, _] [] rfl ⟨_, _, rfl, rfl, Or.inl ⟨_, _, rfl, rfl⟩⟩ (Nat.le_of_ble_eq_true rfl) (t_To_add d fm X s t hN.1 hN4 _ _ _) ?_
      rintro _ _ ⟨rfl, rfl⟩
      show ab_Z m_To_scanLetters _ _ _ 34 [_, _, _, _, _, _] [] _
      refine ab_go ok_To_scanLetters 1 rfl ?_
      show ab_Z m_To_scanLetters _ _ _ 35 [_, _, _, _, _, _] [_] _
      exact ab_rI ok_To_scanLetters rfl (fin _ rfl)
    have rest : ab_Z m_To_scanLetters (d + 2) (0, 0) Po 20 [some (.ref 3), some (.ref 1), some (.int (nI j)), some (.long (lN (cdL 32 (ltL b L j (e - j))))), none, some (.int (nI e))] [] (HA fm X s t) := by
      refine ab_go ok_To_scanLetters 5 rfl ?_
      show ab_Z m_To_scanLetters _ _ _ 25 [_, _, _, _, _, _] [_, _, _] _
      rw [pk_sub r1]
      refine ab_br ok_To_scanLetters rfl rfl ?_ ?_
      · intro h1
        show ab_Z m_To_scanLetters _ _ _ 28 [_, _, _, _, _, _] [_] _
        have h1' := (nI_leI (show e - j < 2 ^ 31 by omega) (show 8 < 2 ^ 31 by decide)).mp h1
        refine ab_go ok_To_scanLetters 2 rfl ?_
        show ab_Z m_To_scanLetters _ _ _ 30 [_, _, _, _, _, _] [_, _, _] _
        refine ab_cl ok_To_scanLetters rfl [_, _] [_] rfl ⟨_, _, rfl, rfl, Or.inl ⟨_, _, rfl, rfl⟩⟩ (Nat.le_of_ble_eq_true rfl) (t_To_kindOf (d + 1) fm X s t hW (l := ltL b L j (e - j)) (ltL_m ⟨r1, r2, r3, r4⟩) (by rw [ltL_len]; exact h1')) ?_
        rintro _ _ ⟨rfl, rfl⟩
        show ab_Z m_To_scanLetters _ _ _ 31 [_, _, _, _, _, _] [_, _] _
        exact tail _ (by rw [hK, if_neg (by omega)])
      · intro h1
        show ab_Z m_To_scanLetters _ _ _ 26 [_, _, _, _, _, _] [_] _
        have h1' : ¬ e - j ≤ 8 := fun z => h1 ((nI_leI (show e - j < 2 ^ 31 by omega) (show 8 < 2 ^ 31 by decide)).mpr z)
        refine ab_go ok_To_scanLetters 2 rfl ?_
        show ab_Z m_To_scanLetters _ _ _ 31 [_, _, _, _, _, _] [_, _] _
        exact tail _ (by rw [hK, if_pos (by omega)]; rfl)
    refine ab_go ok_To_scanLetters 2 rfl ?_
    show ab_Z m_To_scanLetters _ _ _ 6 [_, _, _, _, _, _] [_, _] _
    refine ab_br ok_To_scanLetters rfl rfl ?_ ?_
    · intro h1
      show ab_Z m_To_scanLetters _ _ _ 20 [_, _, _, _, _, _] [] _
      exact rest
    · intro h1
      show ab_Z m_To_scanLetters _ _ _ 7 [_, _, _, _, _, _] [] _
      refine ab_go ok_To_scanLetters 2 rfl ?_
      show ab_Z m_To_scanLetters _ _ _ 9 [_, _, _, _, _, _] [_, _] _
      refine ab_cl ok_To_scanLetters rfl [_, _] [] rfl ⟨_, _, rfl, rfl, Or.inl ⟨_, _, rfl, rfl⟩⟩ (Nat.le_of_ble_eq_true rfl) (t_Ta_byteAt (d + 1) fm X s t hL h2 (show e < 100000 by omega)) ?_
      rintro _ _ ⟨rfl, rfl⟩
      show ab_Z m_To_scanLetters _ _ _ 10 [_, _, _, _, _, _] [_] _
      refine ab_cl ok_To_scanLetters rfl [_] [] rfl rfl (Nat.le_of_ble_eq_true rfl) (t_To_isLetter (d + 1) _ _) ?_
      rintro _ _ ⟨rfl, rfl⟩
      show ab_Z m_To_scanLetters _ _ _ 11 [_, _, _, _, _, _] [_] _
      rw [← hb, lt_I, r4]
      refine ab_go ok_To_scanLetters 1 rfl ?_
      show ab_Z m_To_scanLetters _ _ _ 20 [_, _, _, _, _, _] [] _
      exact rest
  · intro k hk ih
    have hlt := r3 (j + k) (by omega) (by omega)
    have hlr := ltC_r hlt
    obtain ⟨ci, hci⟩ := chI_in (b := b) (L := L) (i := j + k) (by omega)
    refine ab_go ok_To_scanLetters 2 rfl ?_
    show ab_Z m_To_scanLetters _ _ _ 6 [_, _, _, _, _, _] [_, _] _
    refine ab_br ok_To_scanLetters rfl rfl ?_ ?_
    · intro h1
      show ab_Z m_To_scanLetters _ _ _ 20 [_, _, _, _, _, _] [] _
      exact absurd h1 (lp_in (N := 2000) (by decide) (by omega))
    · intro h1
      show ab_Z m_To_scanLetters _ _ _ 7 [_, _, _, _, _, _] [] _
      refine ab_go ok_To_scanLetters 2 rfl ?_
      show ab_Z m_To_scanLetters _ _ _ 9 [_, _, _, _, _, _] [_, _] _
      refine ab_cl ok_To_scanLetters rfl [_, _] [] rfl ⟨_, _, rfl, rfl, Or.inl ⟨_, _, rfl, rfl⟩⟩ (Nat.le_of_ble_eq_true rfl) (t_Ta_byteAt (d + 1) fm X s t hL h2 (show j + k < 100000 by omega)) ?_
      rintro _ _ ⟨rfl, rfl⟩
      show ab_Z m_To_scanLetters _ _ _ 10 [_, _, _, _, _, _] [_] _
      refine ab_cl ok_To_scanLetters rfl [_] [] rfl rfl (Nat.le_of_ble_eq_true rfl) (t_To_isLetter (d + 1) _ _) ?_
      rintro _ _ ⟨rfl, rfl⟩
      show ab_Z m_To_scanLetters _ _ _ 11 [_, _, _, _, _, _] [_] _
      rw [← hb, lt_I, hlt]
      refine ab_go ok_To_scanLetters 1 rfl ?_
      show ab_Z m_To_scanLetters _ _ _ 12 [_, _, _, _, _, _] [] _
      refine ab_go ok_To_scanLetters 3 rfl ?_
      show ab_Z m_To_scanLetters _ _ _ 15 [_, _, _, _, _, _] [_, _, _] _
      refine ab_cl ok_To_scanLetters rfl [_, _] [_] rfl ⟨_, _, rfl, rfl, Or.inl ⟨_, _, rfl, rfl⟩⟩ (Nat.le_of_ble_eq_true rfl) (t_Ta_byteAt (d + 1) fm X s t hL h2 (show j + k < 100000 by omega)) ?_
      rintro _ _ ⟨rfl, rfl⟩
      show ab_Z m_To_scanLetters _ _ _ 16 [_, _, _, _, _, _] [_, _] _
      rw [← hb, ci]
      refine ab_cl ok_To_scanLetters rfl [_, _] [] rfl rfl (Nat.le_of_ble_eq_true rfl) (t_To_withLetter (d + 1) _ hlr.1 (by omega)) ?_
      rintro _ _ ⟨rfl, rfl⟩
      show ab_Z m_To_scanLetters _ _ _ 17 [_, _, _, _, _, _] [_] _
      refine ab_go ok_To_scanLetters 3 rfl ?_
      show ab_Z m_To_scanLetters _ _ _ 4 [_, _, _, _, _, _] [] _
      rw [← cdL_s]
      rw [← Nat.add_assoc, nI_succ] at ih
      exact ih
theorem t_To_scanDigits {b : Nat → Int32} (hb : b = s 2) {L j N : Nat} (hL : s 1 1 = nI L) (h2 : L ≤ 2000) (hN : TkS b L s t N) (hN4 : N < 401) (hj : j = tkP b L N) (hjL : j < L) (hl : ltC (chN b L j) = false) (hc : dgC (chN b L j) = true) : ab_T g_To_scanDigits (d + 2) (0, 0) [.ref 3, .ref 1, .int (nI j)] (HA fm X s t) (PTk (nI (tkE b L j)) fm X s t b L (N + 1)) := by
  have hr := dg_E b (show j ≤ L by omega)
  have hl' : ¬ ltC (chN b L j) = true := by rw [hl]; decide
  have hK : tkK b L j = if 4 < dgE b L j - j then 1 else 3 := by unfold tkK; rw [if_neg hl', if_pos hc]
  have hE : tkE b L j = dgE b L j := by unfold tkE; rw [if_neg hl', if_pos hc]
  have hVa : tkV' b L j = ivN b L j (dgE b L j - j) := rfl
  rw [hE]
  generalize dgE b L j = e at hr hK hVa ⊢
  obtain ⟨r1, r2, r3, r4⟩ := hr
  generalize hPo : PTk (nI e) fm X s t b L (N + 1) = Po
  have fin : ∀ v, (e - j ≤ 4 → v = lN (ivN b L j (e - j))) → Po (some (.int (nI e))) (HA fm X (addS s N (nI (tkK b L j)) (nI j)) (ab_up t 6 N v)) := by
    intro v hv
    rw [← hPo]
    refine ⟨rfl, _, _, rfl, addS_k s N _ _, fun c hc' => ab_up_o hc', ?_⟩
    rw [hj]
    refine TkS.add hN (fun z => ?_) (fun z => ?_)
    · rw [← hj, hK] at z
      split at z
      · omega
      · rw [← hj, hVa]; exact hv (by omega)
    · rw [← hj, hK] at z
      split at z <;> omega
  refine ab_T_of (M := m_To_scanDigits) rfl rfl (Nat.le_of_ble_eq_true rfl) ?_
  show ab_Z m_To_scanDigits _ _ _ 0 [_, _, _, _, _] [] _
  refine ab_go ok_To_scanDigits 4 rfl ?_
  show ab_Z m_To_scanDigits _ _ _ 4 [_, _, _, _, _] [] _
  have := lp_dn (e - j) (fun k => ab_Z m_To_scanDigits (d + 2) (0, 0) Po 4 [some (.ref 3), some (.ref 1), some (.int (nI j)), some (.int (nI (ivN b L j k))), some (.int (nI (j + k)))] [] (HA fm X s t)) ?_ ?_
  · exact this
  · rw [show j + (e - j) = e by omega]
    have tail : ∀ kd : Int32, kd = nI (tkK b L j) → ab_Z m_To_scanDigits (d + 2) (0, 0) Po 33 [some (.ref 3), some (.ref 1), some (.int (nI j)), some (.int (nI (ivN b L j (e - j)))), some (.int (nI e))] [.int kd, .ref 3] (HA fm X s t) := by
      intro kd hkd
      subst hkd
      refine ab_go ok_To_scanDigits 3 rfl ?_
      show ab_Z m_To_scanDigits _ _ _ 36 [_, _, _, _, _] [_, _, _, _] _
      refine ab_cl ok_To_scanDigits rfl [_, _, _, _] [] rfl ⟨_, _, rfl, rfl, Or.inl ⟨_, _, rfl, rfl⟩⟩ (Nat.le_of_ble_eq_true rfl) (t_To_add d fm X s t hN.1 hN4 _ _ _) ?_
      rintro _ _ ⟨rfl, rfl⟩
      show ab_Z m_To_scanDigits _ _ _ 37 [_, _, _, _, _] [] _
      refine ab_go ok_To_scanDigits 1 rfl ?_
      show ab_Z m_To_scanDigits _ _ _ 38 [_, _, _, _, _] [_] _
      exact ab_rI ok_To_scanDigits rfl (fin _ (fun h4 => nI_l (Nat.lt_of_lt_of_le (iv_lt (fun k hk => r3 (j + k) (by omega) (by omega))) (Nat.le_trans (Nat.pow_le_pow_right (by decide) h4) (by decide)))))
    have rest : ab_Z m_To_scanDigits (d + 2) (0, 0) Po 24 [some (.ref 3), some (.ref 1), some (.int (nI j)), some (.int (nI (ivN b L j (e - j)))), some (.int (nI e))] [] (HA fm X s t) := by
      refine ab_go ok_To_scanDigits 5 rfl ?_
      show ab_Z m_To_scanDigits _ _ _ 29 [_, _, _, _, _] [_, _, _] _
      rw [pk_sub r1]
      refine ab_br ok_To_scanDigits rfl rfl ?_ ?_
      · intro h1
        show ab_Z m_To_scanDigits _ _ _ 32 [_, _, _, _, _] [_] _
        have h1' := (nI_leI (show e - j < 2 ^ 31 by omega) (show 4 < 2 ^ 31 by decide)).mp h1
        refine ab_go ok_To_scanDigits 1 rfl ?_
        show ab_Z m_To_scanDigits _ _ _ 33 [_, _, _, _, _] [_, _] _
        exact tail _ (by rw [hK, if_neg (by omega)]; rfl)
      · intro h1
        show ab_Z m_To_scanDigits _ _ _ 30 [_, _, _, _, _] [_] _
        have h1' : ¬ e - j ≤ 4 := fun z => h1 ((nI_leI (show e - j < 2 ^ 31 by omega) (show 4 < 2 ^ 31 by decide)).mpr z)
        refine ab_go ok_To_scanDigits 2 rfl ?_
        show ab_Z m_To_scanDigits _ _ _ 33 [_, _, _, _, _] [_, _] _
        exact tail _ (by rw [hK, if_pos (by omega)]; rfl)
    refine ab_go ok_To_scanDigits 2 rfl ?_
    show ab_Z m_To_scanDigits _ _ _ 6 [_, _, _, _, _] [_, _] _
    refine ab_br ok_To_scanDigits rfl rfl ?_ ?_
    · intro h1
      show ab_Z m_To_scanDigits _ _ _ 24 [_, _, _, _, _] [] _
      exact rest
    · intro h1
      show ab_Z m_To_scanDigits _ _ _ 7 [_, _, _, _, _] [] _
      refine ab_go ok_To_scanDigits 2 rfl ?_
      show ab_Z m_To_scanDigits _ _ _ 9 [_, _, _, _, _] [_, _] _
      refine ab_cl ok_To_scanDigits rfl [_, _] [] rfl ⟨_, _, rfl, rfl, Or.inl ⟨_, _, rfl, rfl⟩⟩ (Nat.le_of_ble_eq_true rfl) (t_Ta_byteAt (d + 1) fm X s t hL h2 (show e < 100000 by omega)) ?_
      rintro _ _ ⟨rfl, rfl⟩
      show ab_Z m_To_scanDigits _ _ _ 10 [_, _, _, _, _] [_] _
      refine ab_cl ok_To_scanDigits rfl [_] [] rfl rfl (Nat.le_of_ble_eq_true rfl) (t_To_isDigit (d + 1) _ _) ?_
      rintro _ _ ⟨rfl, rfl⟩
      show ab_Z m_To_scanDigits _ _ _ 11 [_, _, _, _, _] [_] _
      rw [← hb, dg_I, r4]
      refine ab_go ok_To_scanDigits 1 rfl ?_
      show ab_Z m_To_scanDigits _ _ _ 24 [_, _, _, _, _] [] _
      exact rest
  · intro k hk ih
    have hlt := r3 (j + k) (by omega) (by omega)
    have hlr := dgC_r hlt
    obtain ⟨ci, hci⟩ := chI_in (b := b) (L := L) (i := j + k) (by omega)
    refine ab_go ok_To_scanDigits 2 rfl ?_
    show ab_Z m_To_scanDigits _ _ _ 6 [_, _, _, _, _] [_, _] _
    refine ab_br ok_To_scanDigits rfl rfl ?_ ?_
    · intro h1
      show ab_Z m_To_scanDigits _ _ _ 24 [_, _, _, _, _] [] _
      exact absurd h1 (lp_in (N := 2000) (by decide) (by omega))
    · intro h1
      show ab_Z m_To_scanDigits _ _ _ 7 [_, _, _, _, _] [] _
      refine ab_go ok_To_scanDigits 2 rfl ?_
      show ab_Z m_To_scanDigits _ _ _ 9 [_, _, _, _, _] [_, _] _
      refine ab_cl ok_To_scanDigits rfl [_, _] [] rfl ⟨_, _, rfl, rfl, Or.inl ⟨_, _, rfl, rfl⟩⟩ (Nat.le_of_ble_eq_true rfl) (t_Ta_byteAt (d + 1) fm X s t hL h2 (show j + k < 100000 by omega)) ?_
      rintro _ _ ⟨rfl, rfl⟩
      show ab_Z m_To_scanDigits _ _ _ 10 [_, _, _, _, _] [_] _
      refine ab_cl ok_To_scanDigits rfl [_] [] rfl rfl (Nat.le_of_ble_eq_true rfl) (t_To_isDigit (d + 1) _ _) ?_
      rintro _ _ ⟨rfl, rfl⟩
      show ab_Z m_To_scanDigits _ _ _ 11 [_, _, _, _, _] [_] _
      rw [← hb, dg_I, hlt]
      refine ab_go ok_To_scanDigits 1 rfl ?_
      show ab_Z m_To_scanDigits _ _ _ 12 [_, _, _, _, _] [] _
      refine ab_go ok_To_scanDigits 5 rfl ?_
      show ab_Z m_To_scanDigits _ _ _ 17 [_, _, _, _, _] [_, _, _] _
      refine ab_cl ok_To_scanDigits rfl [_, _] [_] rfl ⟨_, _, rfl, rfl, Or.inl ⟨_, _, rfl, rfl⟩⟩ (Nat.le_of_ble_eq_true rfl) (t_Ta_byteAt (d + 1) fm X s t hL h2 (show j + k < 100000 by omega)) ?_
      rintro _ _ ⟨rfl, rfl⟩
      show ab_Z m_To_scanDigits _ _ _ 18 [_, _, _, _, _] [_, _] _
      rw [← hb, ci]
      refine ab_go ok_To_scanDigits 6 rfl ?_
      show ab_Z m_To_scanDigits _ _ _ 4 [_, _, _, _, _] [] _
      rw [LL10, pk_mul, nI_add, show (48 : Int32) = nI 48 from rfl, pk_sub (by omega), show 10 * ivN b L j k + chN b L (j + k) - 48 = ivN b L j (k + 1) from by rw [ivN]; omega]
      rw [← Nat.add_assoc, nI_succ] at ih
      exact ih
theorem t_To_scanOne {b : Nat → Int32} (hb : b = s 2) {L j N : Nat} (hW : WdC t) (hL : s 1 1 = nI L) (h2 : L ≤ 2000) (hN : TkS b L s t N) (hN4 : N < 401) (hj : j = tkP b L N) (hjL : j ≤ L) : ab_T g_To_scanOne (d + 4) (0, 0) [.ref 3, .ref 1, .int (nI j)] (HA fm X s t) (PTk (nI (tkE b L j)) fm X s t b L (N + 1)) := by
  refine ab_T_of (M := m_To_scanOne) rfl rfl (Nat.le_of_ble_eq_true rfl) ?_
  show ab_Z m_To_scanOne _ _ _ 0 [_, _, _, _] [] _
  refine ab_go ok_To_scanOne 2 rfl ?_
  show ab_Z m_To_scanOne _ _ _ 2 [_, _, _, _] [_, _] _
  refine ab_cl ok_To_scanOne rfl [_, _] [] rfl ⟨_, _, rfl, rfl, Or.inl ⟨_, _, rfl, rfl⟩⟩ (Nat.le_of_ble_eq_true rfl) (t_Ta_byteAt (d + 3) fm X s t hL h2 (show j < 100000 by omega)) ?_
  rintro _ _ ⟨rfl, rfl⟩
  show ab_Z m_To_scanOne _ _ _ 3 [_, _, _, _] [_] _
  rw [← hb]
  refine ab_go ok_To_scanOne 2 rfl ?_
  show ab_Z m_To_scanOne _ _ _ 5 [_, _, _, _] [_] _
  refine ab_cl ok_To_scanOne rfl [_] [] rfl rfl (Nat.le_of_ble_eq_true rfl) (t_To_isLetter (d + 3) _ _) ?_
  rintro _ _ ⟨rfl, rfl⟩
  show ab_Z m_To_scanOne _ _ _ 6 [_, _, _, _] [_] _
  rw [lt_I]
  refine ab_br ok_To_scanOne rfl rfl ?_ ?_
  · intro h1
    show ab_Z m_To_scanOne _ _ _ 12 [_, _, _, _] [] _
    have h1' := bB_0.mp h1
    refine ab_go ok_To_scanOne 1 rfl ?_
    show ab_Z m_To_scanOne _ _ _ 13 [_, _, _, _] [_] _
    refine ab_cl ok_To_scanOne rfl [_] [] rfl rfl (Nat.le_of_ble_eq_true rfl) (t_To_isDigit (d + 3) _ _) ?_
    rintro _ _ ⟨rfl, rfl⟩
    show ab_Z m_To_scanOne _ _ _ 14 [_, _, _, _] [_] _
    rw [dg_I]
    refine ab_br ok_To_scanOne rfl rfl ?_ ?_
    · intro h3
      show ab_Z m_To_scanOne _ _ _ 20 [_, _, _, _] [] _
      have h3' := bB_0.mp h3
      have hE : tkE b L j = j + 1 := by unfold tkE; rw [if_neg (by rw [h1']; decide), if_neg (by rw [h3']; decide)]
      rw [hE]
      have hK0 : tkK b L j = if chN b L j = 256 then 0 else if sgC (chN b L j) = true then chN b L j else 1 := by
        unfold tkK; rw [if_neg (by rw [h1']; decide), if_neg (by rw [h3']; decide)]
      have hK3 : tkK b L j ≠ 3 ∧ tkK b L j ≠ 2 := by
        rw [hK0]
        refine ⟨?_, ?_⟩ <;> split <;> (try omega) <;> split <;> (try omega) <;> (rename_i h9; intro z; rw [z] at h9; exact absurd h9 (by decide))
      have fin : ∀ v, (fun v h => v = some (.int (nI (j + 1))) ∧ ∃ s' t', h = HA fm X s' t' ∧ KT s s' ∧ KTt t t' ∧ TkS b L s' t' (N + 1) : Option Value → ab_H → Prop) (some (.int (nI j + 1))) (HA fm X (addS s N (nI (tkK b L j)) (nI j)) (ab_up t 6 N v)) := by
        intro v
        refine ⟨by rw [nI_succ], _, _, rfl, addS_k s N _ _, fun c hc' => ab_up_o hc', ?_⟩
        rw [hj]
        rw [hj] at hK3
        exact TkS.add hN (fun z => absurd z hK3.1) (fun z => absurd z hK3.2)
      refine ab_go ok_To_scanOne 2 rfl ?_
      show ab_Z m_To_scanOne _ _ _ 22 [_, _, _, _] [_, _] _
      refine ab_br ok_To_scanOne rfl rfl ?_ ?_
      · intro h4
        show ab_Z m_To_scanOne _ _ _ 23 [_, _, _, _] [] _
        have hch : chN b L j = 256 := by
          rcases Nat.lt_or_ge j L with h | h
          · exfalso
            unfold chI at h4
            rw [if_pos h] at h4
            have := byN_lt b j
            have h5 := congrArg Int32.toInt h4
            rw [nI_t (by omega)] at h5
            have h6 : (-1 : Int32).toInt = -1 := rfl
            omega
          · exact ch_hi h
        refine ab_go ok_To_scanOne 4 rfl ?_
        show ab_Z m_To_scanOne _ _ _ 27 [_, _, _, _] [_, _, _, _] _
        refine ab_cl ok_To_scanOne rfl [_, _, _, _] [] rfl ⟨_, _, rfl, rfl, Or.inl ⟨_, _, rfl, rfl⟩⟩ (Nat.le_of_ble_eq_true rfl) (t_To_add (d + 2) fm X s t hN.1 hN4 _ _ _) ?_
        rintro _ _ ⟨rfl, rfl⟩
        show ab_Z m_To_scanOne _ _ _ 28 [_, _, _, _] [] _
        refine ab_go ok_To_scanOne 4 rfl ?_
        show ab_Z m_To_scanOne _ _ _ 44 [_, _, _, _] [_] _
        have f := fin 0
        rw [hK0, if_pos hch] at f
        exact ab_rI ok_To_scanOne rfl (f)
      · intro h4
        show ab_Z m_To_scanOne _ _ _ 29 [_, _, _, _] [] _
        have hlt : j < L := by
          rcases Nat.lt_or_ge j L with h | h
          · exact h
          · exact absurd (by unfold chI; rw [if_neg (by omega)]) h4
        have hc256 := ch_lt (b := b) hlt
        obtain ⟨ci, -⟩ := chI_in (b := b) (L := L) (i := j) hc256
        refine ab_go ok_To_scanOne 4 rfl ?_
        show ab_Z m_To_scanOne _ _ _ 33 [_, _, _, _] [_, _, _] _
        rw [ci, show ((nI (chN b L j)).toUInt32 % 65536).toInt32 = nI (chN b L j) from by rw [pk_char, pk_tn (by omega), Nat.mod_eq_of_lt (by omega)]]
        refine ab_cl ok_To_scanOne rfl [_, _] [_] rfl ⟨_, _, rfl, rfl, Or.inr ⟨Or.inr rfl, rfl⟩⟩ (Nat.le_of_ble_eq_true rfl) (t_JS_indexOf0 d fm X s t hc256) ?_
        rintro _ _ ⟨rfl, r, rfl, hr⟩
        show ab_Z m_To_scanOne _ _ _ 34 [_, _, _, _] [_, _] _
        refine ab_br ok_To_scanOne rfl rfl ?_ ?_
        · intro h7
          show ab_Z m_To_scanOne _ _ _ 37 [_, _, _, _] [_] _
          have hs := hr.mp h7
          refine ab_go ok_To_scanOne 3 rfl ?_
          show ab_Z m_To_scanOne _ _ _ 40 [_, _, _, _] [_, _, _, _] _
          refine ab_cl ok_To_scanOne rfl [_, _, _, _] [] rfl ⟨_, _, rfl, rfl, Or.inl ⟨_, _, rfl, rfl⟩⟩ (Nat.le_of_ble_eq_true rfl) (t_To_add (d + 2) fm X s t hN.1 hN4 _ _ _) ?_
          rintro _ _ ⟨rfl, rfl⟩
          show ab_Z m_To_scanOne _ _ _ 41 [_, _, _, _] [] _
          refine ab_go ok_To_scanOne 3 rfl ?_
          show ab_Z m_To_scanOne _ _ _ 44 [_, _, _, _] [_] _
          have f := fin 0
          rw [hK0, if_neg (by omega), if_neg (by rw [hs]; decide)] at f
          exact ab_rI ok_To_scanOne rfl (f)
        · intro h7
          show ab_Z m_To_scanOne _ _ _ 35 [_, _, _, _] [_] _
          have hs : sgC (chN b L j) = true := by
            cases hx : sgC (chN b L j)
            · exact absurd (hr.mpr hx) h7
            · rfl
          refine ab_go ok_To_scanOne 4 rfl ?_
          show ab_Z m_To_scanOne _ _ _ 40 [_, _, _, _] [_, _, _, _] _
          refine ab_cl ok_To_scanOne rfl [_, _, _, _] [] rfl ⟨_, _, rfl, rfl, Or.inl ⟨_, _, rfl, rfl⟩⟩ (Nat.le_of_ble_eq_true rfl) (t_To_add (d + 2) fm X s t hN.1 hN4 _ _ _) ?_
          rintro _ _ ⟨rfl, rfl⟩
          show ab_Z m_To_scanOne _ _ _ 41 [_, _, _, _] [] _
          refine ab_go ok_To_scanOne 3 rfl ?_
          show ab_Z m_To_scanOne _ _ _ 44 [_, _, _, _] [_] _
          have f := fin 0
          rw [hK0, if_neg (by omega), if_pos hs] at f
          exact ab_rI ok_To_scanOne rfl (f)
    · intro h3
      show ab_Z m_To_scanOne _ _ _ 15 [_, _, _, _] [] _
      have h3' := bB_n0 h3
      have hlt : j < L := by
        rcases Nat.lt_or_ge j L with h | h
        · exact h
        · rw [ch_hi h] at h3'; exact absurd h3' (by decide)
      refine ab_go ok_To_scanOne 3 rfl ?_
      show ab_Z m_To_scanOne _ _ _ 18 [_, _, _, _] [_, _, _] _
      refine ab_cl ok_To_scanOne rfl [_, _, _] [] rfl ⟨_, _, rfl, rfl, Or.inl ⟨_, _, rfl, rfl⟩⟩ (Nat.le_of_ble_eq_true rfl) (t_To_scanDigits (d + 1) fm X s t hb hL h2 hN hN4 hj hlt h1' h3') ?_
      rintro _ _ ⟨rfl, s1, t1, rfl, q⟩
      show ab_Z m_To_scanOne _ _ _ 19 [_, _, _, _] [_] _
      exact ab_rI ok_To_scanOne rfl (⟨rfl, s1, t1, rfl, q⟩)
  · intro h1
    show ab_Z m_To_scanOne _ _ _ 7 [_, _, _, _] [] _
    have h1' := bB_n0 h1
    have hlt : j < L := by
      rcases Nat.lt_or_ge j L with h | h
      · exact h
      · rw [ch_hi h] at h1'; exact absurd h1' (by decide)
    refine ab_go ok_To_scanOne 3 rfl ?_
    show ab_Z m_To_scanOne _ _ _ 10 [_, _, _, _] [_, _, _] _
    refine ab_cl ok_To_scanOne rfl [_, _, _] [] rfl ⟨_, _, rfl, rfl, Or.inl ⟨_, _, rfl, rfl⟩⟩ (Nat.le_of_ble_eq_true rfl) (t_To_scanLetters (d + 1) fm X s t hb hW hL h2 hN hN4 hj hlt h1') ?_
    rintro _ _ ⟨rfl, s1, t1, rfl, q⟩
    show ab_Z m_To_scanOne _ _ _ 11 [_, _, _, _] [_] _
    exact ab_rI ok_To_scanOne rfl (⟨rfl, s1, t1, rfl, q⟩)
/-- a tape's tokens stand in the class's rows, up to the end, or what is no token, or the 401st -/
def TkF (b : Nat → Int32) (L : Nat) (s : Nat → Nat → Int32) (t : Nat → Nat → Int64) (N : Nat) : Prop := TkS b L s t N ∧ 1 ≤ N ∧ N ≤ 401 ∧ (∀ n, n + 1 < N → tkK b L (tkP b L n) ≠ 0 ∧ tkK b L (tkP b L n) ≠ 1) ∧ (N = 401 ∨ tkK b L (tkP b L (N - 1)) = 0 ∨ tkK b L (tkP b L (N - 1)) = 1)
theorem tkK_r (b : Nat → Int32) (L j : Nat) : tkK b L j < 300 := by
  unfold tkK
  split
  · split
    · omega
    · rcases wk_r (ltL b L j (ltE b L j - j)) wdL 0 with h2 | ⟨i, h1, h2, -⟩
      · omega
      · have : wdL.length = 21 := rfl
        omega
  · split
    · split <;> omega
    · split
      · omega
      · split
        · rename_i h1 h2
          unfold chN at h1 ⊢
          split
          · have := byN_lt b j; omega
          · omega
        · omega
theorem t_To_scan {b : Nat → Int32} (hb : b = s 2) {L : Nat} (hW : WdC t) (hL : s 1 1 = nI L) (h2 : L ≤ 2000) : ab_T g_To_scan (d + 5) (0, 0) [.ref 3, .ref 1] (HA fm X s t) (fun v h => v = none ∧ ∃ s' t' N, h = HA fm X s' t' ∧ KT s s' ∧ KTt t t' ∧ TkF b L s' t' N) := by
  generalize hPo : (fun v h => v = none ∧ ∃ s' t' N, h = HA fm X s' t' ∧ KT s s' ∧ KTt t t' ∧ TkF b L s' t' N : Option Value → ab_H → Prop) = Po
  have hout : ∀ N s1 t1 f m, KT s s1 → KTt t t1 → TkS b L s1 t1 N → 1 ≤ N → N ≤ 401 → (∀ n, n + 1 < N → tkK b L (tkP b L n) ≠ 0 ∧ tkK b L (tkP b L n) ≠ 1) → (N = 401 ∨ tkK b L (tkP b L (N - 1)) = 0 ∨ tkK b L (tkP b L (N - 1)) = 1) → ab_Z m_To_scan (d + 5) (0, 0) Po 36 [some (.ref 3), some (.ref 1), f, m, some (.int (nI N))] [] (HA fm X s1 t1) := by
    intro N s1 t1 f m k1 k2 hT h3 h4 h5 h6
    have fin : Po none (HA fm X s1 t1) := by
      rw [← hPo]
      exact ⟨rfl, s1, t1, N, rfl, k1, k2, hT, h3, h4, h5, h6⟩
    exact ab_rV ok_To_scan rfl (fin)
  refine ab_T_of (M := m_To_scan) rfl rfl (Nat.le_of_ble_eq_true rfl) ?_
  show ab_Z m_To_scan _ _ _ 0 [_, _, _, _, _] [] _
  refine ab_go ok_To_scan 9 rfl ?_
  show ab_Z m_To_scan _ _ _ 9 [_, _, _, _, _] [] _
  refine lp_dn 401 (fun N => ∀ s1 t1 from0, KT s s1 → KTt t t1 → TkS b L s1 t1 N → (∀ n, n < N → tkK b L (tkP b L n) ≠ 0 ∧ tkK b L (tkP b L n) ≠ 1) → from0 ≤ L → tkP b L N = bkE b L from0 → ab_Z m_To_scan (d + 5) (0, 0) Po 9 [some (.ref 3), some (.ref 1), some (.int (nI from0)), some (.int 1), some (.int (nI N))] [] (HA fm X s1 t1)) ?_ ?_ (ab_up s 3 4 0) t 0 (fun c k _ _ h3 => by
      by_cases hc : c = 3
      · subst hc; rw [ab_up_n (fun z => h3 ⟨rfl, z⟩)]
      · rw [ab_up_o hc]) (KTt.rf t) ⟨ab_up_s .., fun n hn => absurd hn (by omega)⟩ (fun n hn => absurd hn (by omega)) (Nat.zero_le _) rfl
  · intro s1 t1 from0 k1 k2 hT hn hf hp
    refine ab_go ok_To_scan 2 rfl ?_
    show ab_Z m_To_scan _ _ _ 11 [_, _, _, _, _] [_, _] _
    refine ab_go ok_To_scan 1 rfl ?_
    show ab_Z m_To_scan _ _ _ 36 [_, _, _, _, _] [] _
    exact hout 401 s1 t1 _ _ k1 k2 hT (by decide) (by decide) (fun n h => hn n (by omega)) (Or.inl rfl)
  · intro N hN4 ih s1 t1 from0 k1 k2 hT hn hf hp
    have hb1 : b = s1 2 := hb.trans (funext fun k => (k1 2 k (by decide) (by decide) (fun z => absurd z.1 (by decide))).symm)
    have hL1 : s1 1 1 = nI L := (k1 1 1 (by decide) (by decide) (fun z => absurd z.1 (by decide))).trans hL
    have hW1 : WdC t1 := fun k w hw => by rw [k2 7 (by decide)]; exact hW k w hw
    have hPle : tkP b L N ≤ L := tkP_le b N (fun m hm => (hn m hm).1)
    refine ab_go ok_To_scan 2 rfl ?_
    show ab_Z m_To_scan _ _ _ 11 [_, _, _, _, _] [_, _] _
    refine ab_br ok_To_scan rfl rfl ?_ ?_
    · intro h1
      show ab_Z m_To_scan _ _ _ 36 [_, _, _, _, _] [] _
      have := i_ltK (z := 400) rfl h1
      rw [nI_t (by omega)] at this
      omega
    · intro h1
      show ab_Z m_To_scan _ _ _ 12 [_, _, _, _, _] [] _
      refine ab_go ok_To_scan 1 rfl ?_
      show ab_Z m_To_scan _ _ _ 13 [_, _, _, _, _] [_] _
      refine ab_go ok_To_scan 1 rfl ?_
      show ab_Z m_To_scan _ _ _ 14 [_, _, _, _, _] [] _
      refine ab_go ok_To_scan 4 rfl ?_
      show ab_Z m_To_scan _ _ _ 18 [_, _, _, _, _] [_, _, _, _] _
      refine ab_cl ok_To_scan rfl [_, _] [_, _] rfl rfl (Nat.le_of_ble_eq_true rfl) (t_To_behindBlanks (d + 3) fm X s1 t1 hL1 h2 hf) ?_
      rintro _ _ ⟨rfl, rfl⟩
      show ab_Z m_To_scan _ _ _ 19 [_, _, _, _, _] [_, _, _] _
      rw [← hb1, ← hp]
      refine ab_cl ok_To_scan rfl [_, _, _] [] rfl ⟨_, _, rfl, rfl, Or.inl ⟨_, _, rfl, rfl⟩⟩ (Nat.le_of_ble_eq_true rfl) (t_To_scanOne d fm X s1 t1 hb1 hW1 hL1 h2 hT hN4 rfl hPle) ?_
      rintro _ _ ⟨rfl, s2, t2, rfl, k3, k4, hT2⟩
      show ab_Z m_To_scan _ _ _ 20 [_, _, _, _, _] [_] _
      have hkd : s2 4 N = nI (tkK b L (tkP b L N)) := (hT2.2 N (by omega)).1
      have hKr := tkK_r b L (tkP b L N)
      have stop : (tkK b L (tkP b L N) = 0 ∨ tkK b L (tkP b L N) = 1) → ab_Z m_To_scan (d + 5) (0, 0) Po 32 [some (.ref 3), some (.ref 1), some (.int (nI (tkE b L (tkP b L N)))), some (.int 1), some (.int (nI N))] [] (HA fm X s2 t2) := by
        intro hs
        refine ab_go ok_To_scan 4 rfl ?_
        show ab_Z m_To_scan _ _ _ 9 [_, _, _, _, _] [] _
        rw [← nI_succ]
        have done := fun f m => hout (N + 1) s2 t2 f m (k1.tr k3) (k2.tr k4) hT2 (by omega) (by omega) (fun n h => hn n (by omega)) (Or.inr (by rw [Nat.add_sub_cancel]; exact hs))
        refine ab_go ok_To_scan 2 rfl ?_
        show ab_Z m_To_scan _ _ _ 11 [_, _, _, _, _] [_, _] _
        refine ab_br ok_To_scan rfl rfl ?_ ?_
        · intro h9
          show ab_Z m_To_scan _ _ _ 36 [_, _, _, _, _] [] _
          exact done _ _
        · intro h9
          show ab_Z m_To_scan _ _ _ 12 [_, _, _, _, _] [] _
          refine ab_go ok_To_scan 1 rfl ?_
          show ab_Z m_To_scan _ _ _ 13 [_, _, _, _, _] [_] _
          refine ab_go ok_To_scan 1 rfl ?_
          show ab_Z m_To_scan _ _ _ 36 [_, _, _, _, _] [] _
          exact done _ _
      refine ab_go ok_To_scan 3 rfl ?_
      show ab_Z m_To_scan _ _ _ 23 [_, _, _, _, _] [_, _] _
      refine ab_cl ok_To_scan rfl [_, _] [] rfl ⟨_, _, rfl, rfl, Or.inl ⟨_, _, rfl, rfl⟩⟩ (Nat.le_of_ble_eq_true rfl) (t_To_kindAt (d + 4) fm X s2 t2 hT2.1 (by omega) (show N < N + 1 by omega)) ?_
      rintro _ _ ⟨rfl, rfl⟩
      show ab_Z m_To_scan _ _ _ 24 [_, _, _, _, _] [_] _
      rw [hkd]
      refine ab_br ok_To_scan rfl rfl ?_ ?_
      · intro h3
        show ab_Z m_To_scan _ _ _ 32 [_, _, _, _, _] [] _
        exact stop (Or.inl ((nI_z (by omega)).mp h3))
      · intro h3
        show ab_Z m_To_scan _ _ _ 25 [_, _, _, _, _] [] _
        have h3' : tkK b L (tkP b L N) ≠ 0 := fun z => h3 (by rw [z]; rfl)
        refine ab_go ok_To_scan 2 rfl ?_
        show ab_Z m_To_scan _ _ _ 27 [_, _, _, _, _] [_, _] _
        refine ab_cl ok_To_scan rfl [_, _] [] rfl ⟨_, _, rfl, rfl, Or.inl ⟨_, _, rfl, rfl⟩⟩ (Nat.le_of_ble_eq_true rfl) (t_To_kindAt (d + 4) fm X s2 t2 hT2.1 (by omega) (show N < N + 1 by omega)) ?_
        rintro _ _ ⟨rfl, rfl⟩
        show ab_Z m_To_scan _ _ _ 28 [_, _, _, _, _] [_] _
        rw [hkd]
        refine ab_go ok_To_scan 1 rfl ?_
        show ab_Z m_To_scan _ _ _ 29 [_, _, _, _, _] [_, _] _
        refine ab_br ok_To_scan rfl rfl ?_ ?_
        · intro h4
          show ab_Z m_To_scan _ _ _ 32 [_, _, _, _, _] [] _
          exact stop (Or.inr ((nI_eq (b := 1) (by omega) (by decide)).mp h4))
        · intro h4
          show ab_Z m_To_scan _ _ _ 30 [_, _, _, _, _] [] _
          have h4' : tkK b L (tkP b L N) ≠ 1 := fun z => h4 (by rw [z]; rfl)
          have hlt : tkP b L N < L := by
            rcases Nat.lt_or_ge (tkP b L N) L with h | h
            · exact h
            · exact absurd (tkK_end b h) h3'
          have ih2 := ih s2 t2 (tkE b L (tkP b L N)) (k1.tr k3) (k2.tr k4) hT2 (fun n hnn => by
            by_cases hnN : n = N
            · rw [hnN]; exact ⟨h3', h4'⟩
            · exact hn n (by omega)) (tkE_le b hlt).2 rfl
          rw [nI_succ N] at ih2
          refine ab_go ok_To_scan 5 rfl ?_
          show ab_Z m_To_scan _ _ _ 9 [_, _, _, _, _] [] _
          exact ih2
end

