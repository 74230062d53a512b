/-! the reference's face: what is only looked at -/
theorem rowN_11 (V : Nat → Nat → Int32) (PG PF : List (List Ins)) (nc nd n j : Nat) : ab_ro V 11 (rowN V PG PF nc nd n) 11 j = rowN V PG PF nc nd n j := by rw [ab_ro_c]
theorem bdV_N {V : Nat → Nat → Int32} {PG PF : List (List Ins)} (PB : List (List Ins)) {nc nd e : Nat} (h5 : nc ≤ 5) (h6 : nd ≤ 6) (he : e < nd) (n : Nat) : bdV (ab_ro V 11 (rowN V PG PF nc nd n)) PB PF nd e 0 = bdV V PB PF nd e n := by
  obtain ⟨a1, a2, a3, a4⟩ := rowN_spec V PG PF h5 h6 n
  have e1 : ab_ro V 11 (rowN V PG PF nc nd n) 11 (33 + e) = V 11 (33 + e) := by rw [rowN_11]; exact a1 _ (by omega) (by omega)
  have e2 : ab_ro V 11 (rowN V PG PF nc nd n) 11 39 = V 11 39 + nI n := by rw [rowN_11]; exact a2
  have e3 : prsA (ab_ro V 11 (rowN V PG PF nc nd n)) PF e 0 3 = prsA V PF e n 3 := by
    simp only [prsA]
    rw [show prtA (ab_ro V 11 (rowN V PG PF nc nd n)) PF e 0 0 = prtA V PF e 0 n from by rw [prtA, rowN_11]; exact a4 e 0 he (by decide), show prtA (ab_ro V 11 (rowN V PG PF nc nd n)) PF e 1 0 = prtA V PF e 1 n from by rw [prtA, rowN_11]; exact a4 e 1 he (by decide), show prtA (ab_ro V 11 (rowN V PG PF nc nd n)) PF e 2 0 = prtA V PF e 2 n from by rw [prtA, rowN_11]; exact a4 e 2 he (by decide)]
  unfold bdV
  rw [e1, e2, e3, nI_0, Int32.add_zero, nsV_e h6 (fun k hk => by rw [rowN_11]; exact a1 _ (by omega) (by omega)), ab_ro_o (show (16 : Nat) ≠ 11 by decide), ab_ro_o (show (19 : Nat) ≠ 11 by decide)]
theorem SI_N {V : Nat → Nat → Int32} {PG PF : List (List Ins)} {nc nd nt : Nat} (h5 : nc ≤ 5) (h6 : nd ≤ 6) (hI : SI V nc nd nt) (n : Nat) : SI (ab_ro V 11 (rowN V PG PF nc nd n)) nc nd nt := by
  obtain ⟨a1, -⟩ := rowN_spec V PG PF h5 h6 n
  refine ⟨fun e he => ?_, fun k hk i hi => ?_⟩
  · rw [rowN_11, a1 _ (by omega) (by omega)]; exact hI.1 e he
  · rw [ab_ro_o (by decide)]; exact hI.2 k hk i hi
theorem md_n : ∀ n, n ≤ 5 → ∀ c, c < n → (nI c + 1) - (nI c + 1) / nI n * nI n = if nI n ≤ nI c + 1 then 0 else nI c + 1 := by decide
theorem off_abs {x y : Int32} (hx0 : 0 ≤ x.toInt) (hx : x.toInt ≤ 9) (hy0 : 0 ≤ y.toInt) (hy : y.toInt ≤ 9) : (if x < y then y - x else x - y) = absF (x - y) := by
  have h0 : (0 : Int32).toInt = 0 := rfl
  have hs := i_subI (x := x) (y := y) (by omega) (by omega)
  unfold absF
  by_cases h : x < y
  · have h' := i_lt h
    rw [if_pos h, if_pos (Int32.lt_iff_toInt_lt.mpr (by omega)), Int32.neg_sub]
  · have h' := i_nlt h
    rw [if_neg h, if_neg (fun z => by have := i_lt z; omega)]
section
variable (d : Nat) (fm : Value) (X : Nat × (Nat → Int32)) (s T : Nat → Nat → Int32) (t : Nat → Nat → Int64)
variable {lv nc nd nt : Nat} {PT PG PB PF : List (List Ins)}
theorem t_Mo_handsOf (hC : RC s lv T nc nd nt PT PG PB PF) {e : Nat} (he : e < nd) : ab_T g_Mo_handsOf (d + 4) (0, 0) [.ref 81, .int (nI e)] (HA fm X s t) (PR w2 (nI (bitsN (fun c => canB (vR T nc nd (s 115)) PT nd c e) nc)) fm X s t) := by
  have hlv := hC.1.2.1
  have h5 := hC.1.2.2.1.2
  refine ab_T_of (M := m_Mo_handsOf) rfl rfl (Nat.le_of_ble_eq_true rfl) ?_
  show ab_Z m_Mo_handsOf _ _ _ 0 [_, _, _, _] [] _
  refine ab_go ok_Mo_handsOf 4 rfl ?_
  show ab_Z m_Mo_handsOf _ _ _ 4 [_, _, _, _] [] _
  generalize hVV : vR T nc nd (s 115) = V
  refine lp_dn nc (fun k => ∀ s1, Kr w2 s s1 → ab_Z m_Mo_handsOf (d + 4) (0, 0) (PR w2 (nI (bitsN (fun c => canB V PT nd c e) nc)) fm X s t) 4 [some (.ref 81), some (.int (nI e)), some (.int (nI (bitsN (fun c => canB V PT nd c e) k))), some (.int (nI k))] [] (HA fm X s1 t)) ?_ ?_ s (Kr.rf w2 s)
  · intro s1 hk1
    have hC1 := hC.k hk1.m24
    refine ab_go ok_Mo_handsOf 5 rfl ?_
    show ab_Z m_Mo_handsOf _ _ _ 9 [_, _, _, _] [_, _, _] _
    rw [hC1.1.1]
    refine ab_ia ok_Mo_handsOf rfl rfl (k := lv) (by first | rfl | (simp only [LL1, LL2, LL3, LL4, LL5, LL6, LL7, LL8, LL10, LL15, LL18, LL20, LL21, LL22, LL23, LL24, LL32, LL39, LL40, LL130, LL420, pk_mul, nI_add]; done) | (simp only [LL1, LL2, LL3, LL4, LL5, LL6, LL7, LL8, LL10, LL15, LL18, LL20, LL21, LL22, LL23, LL24, LL32, LL39, LL40, LL130, LL420, pk_mul, nI_add]; congr 1; omega)) (by omega) (Nat.le_of_ble_eq_true rfl) ?_
    show ab_Z m_Mo_handsOf _ _ _ 10 [_, _, _, _] [_, _] _
    rw [hC1.1.2.2.1.1]
    refine ab_br ok_Mo_handsOf rfl rfl ?_ ?_
    · intro h1
      show ab_Z m_Mo_handsOf _ _ _ 24 [_, _, _, _] [] _
      refine ab_go ok_Mo_handsOf 1 rfl ?_
      show ab_Z m_Mo_handsOf _ _ _ 25 [_, _, _, _] [_] _
      exact ab_rI ok_Mo_handsOf rfl (⟨rfl, s1, rfl, hk1⟩)
    · intro h1
      show ab_Z m_Mo_handsOf _ _ _ 11 [_, _, _, _] [] _
      exact absurd (lp_out nc) h1
  · intro k hk ih s1 hk1
    have hC1 := hC.k hk1.m24
    refine ab_go ok_Mo_handsOf 5 rfl ?_
    show ab_Z m_Mo_handsOf _ _ _ 9 [_, _, _, _] [_, _, _] _
    rw [hC1.1.1]
    refine ab_ia ok_Mo_handsOf rfl rfl (k := lv) (by first | rfl | (simp only [LL1, LL2, LL3, LL4, LL5, LL6, LL7, LL8, LL10, LL15, LL18, LL20, LL21, LL22, LL23, LL24, LL32, LL39, LL40, LL130, LL420, pk_mul, nI_add]; done) | (simp only [LL1, LL2, LL3, LL4, LL5, LL6, LL7, LL8, LL10, LL15, LL18, LL20, LL21, LL22, LL23, LL24, LL32, LL39, LL40, LL130, LL420, pk_mul, nI_add]; congr 1; omega)) (by omega) (Nat.le_of_ble_eq_true rfl) ?_
    show ab_Z m_Mo_handsOf _ _ _ 10 [_, _, _, _] [_, _] _
    rw [hC1.1.2.2.1.1]
    refine ab_br ok_Mo_handsOf rfl rfl ?_ ?_
    · intro h1
      show ab_Z m_Mo_handsOf _ _ _ 24 [_, _, _, _] [] _
      exact absurd h1 (lp_in (by omega) hk)
    · intro h1
      show ab_Z m_Mo_handsOf _ _ _ 11 [_, _, _, _] [] _
      refine ab_go ok_Mo_handsOf 3 rfl ?_
      show ab_Z m_Mo_handsOf _ _ _ 14 [_, _, _, _] [_, _, _] _
      refine ab_cl ok_Mo_handsOf rfl [_, _, _] [] rfl ⟨_, _, rfl, rfl, Or.inl ⟨_, _, rfl, rfl⟩⟩ (Nat.le_of_ble_eq_true rfl) (t_Mo_canSeal d fm X s1 T t hC1 hk he) ?_
      rintro _ _ ⟨rfl, s2, rfl, hk2, -⟩
      show ab_Z m_Mo_handsOf _ _ _ 15 [_, _, _, _] [_] _
      rw [hk1.row (c := 115) (fun _ => rfl), hVV]
      have ih2 := ih s2 (hk1.tr hk2)
      refine ab_br ok_Mo_handsOf rfl rfl ?_ ?_
      · intro hx
        show ab_Z m_Mo_handsOf _ _ _ 22 [_, _, _, _] [] _
        refine ab_go ok_Mo_handsOf 2 rfl ?_
        show ab_Z m_Mo_handsOf _ _ _ 4 [_, _, _, _] [] _
        rw [bitsN_no (fun c => canB V PT nd c e) (bB_0.mp hx), nI_succ] at ih2
        exact ih2
      · intro hx
        show ab_Z m_Mo_handsOf _ _ _ 16 [_, _, _, _] [] _
        refine ab_go ok_Mo_handsOf 8 rfl ?_
        show ab_Z m_Mo_handsOf _ _ _ 4 [_, _, _, _] [] _
        rw [bitsN_or (fun c => canB V PT nd c e) (by omega) (bB_n0 hx), ← nI_succ]
        exact ih2
theorem t_Mo_workOf (hC : RC s lv T nc nd nt PT PG PB PF) {c : Nat} (hc : c < nc) : ab_T g_Mo_workOf (d + 4) (0, 0) [.ref 81, .int (nI c)] (HA fm X s t) (PR w2 (nI (bitsN (fun e => canB (vR T nc nd (s 115)) PT nd c e) nd)) fm X s t) := by
  have hlv := hC.1.2.1
  have h6 := hC.1.2.2.2.1.2
  refine ab_T_of (M := m_Mo_workOf) rfl rfl (Nat.le_of_ble_eq_true rfl) ?_
  show ab_Z m_Mo_workOf _ _ _ 0 [_, _, _, _] [] _
  refine ab_go ok_Mo_workOf 4 rfl ?_
  show ab_Z m_Mo_workOf _ _ _ 4 [_, _, _, _] [] _
  generalize hVV : vR T nc nd (s 115) = V
  refine lp_dn nd (fun k => ∀ s1, Kr w2 s s1 → ab_Z m_Mo_workOf (d + 4) (0, 0) (PR w2 (nI (bitsN (fun e => canB V PT nd c e) nd)) fm X s t) 4 [some (.ref 81), some (.int (nI c)), some (.int (nI (bitsN (fun e => canB V PT nd c e) k))), some (.int (nI k))] [] (HA fm X s1 t)) ?_ ?_ s (Kr.rf w2 s)
  · intro s1 hk1
    have hC1 := hC.k hk1.m24
    refine ab_go ok_Mo_workOf 5 rfl ?_
    show ab_Z m_Mo_workOf _ _ _ 9 [_, _, _, _] [_, _, _] _
    rw [hC1.1.1]
    refine ab_ia ok_Mo_workOf rfl rfl (k := lv) (by first | rfl | (simp only [LL1, LL2, LL3, LL4, LL5, LL6, LL7, LL8, LL10, LL15, LL18, LL20, LL21, LL22, LL23, LL24, LL32, LL39, LL40, LL130, LL420, pk_mul, nI_add]; done) | (simp only [LL1, LL2, LL3, LL4, LL5, LL6, LL7, LL8, LL10, LL15, LL18, LL20, LL21, LL22, LL23, LL24, LL32, LL39, LL40, LL130, LL420, pk_mul, nI_add]; congr 1; omega)) (by omega) (Nat.le_of_ble_eq_true rfl) ?_
    show ab_Z m_Mo_workOf _ _ _ 10 [_, _, _, _] [_, _] _
    rw [hC1.1.2.2.2.1.1]
    refine ab_br ok_Mo_workOf rfl rfl ?_ ?_
    · intro h1
      show ab_Z m_Mo_workOf _ _ _ 24 [_, _, _, _] [] _
      refine ab_go ok_Mo_workOf 1 rfl ?_
      show ab_Z m_Mo_workOf _ _ _ 25 [_, _, _, _] [_] _
      exact ab_rI ok_Mo_workOf rfl (⟨rfl, s1, rfl, hk1⟩)
    · intro h1
      show ab_Z m_Mo_workOf _ _ _ 11 [_, _, _, _] [] _
      exact absurd (lp_out nd) h1
  · intro k hk ih s1 hk1
    have hC1 := hC.k hk1.m24
    refine ab_go ok_Mo_workOf 5 rfl ?_
    show ab_Z m_Mo_workOf _ _ _ 9 [_, _, _, _] [_, _, _] _
    rw [hC1.1.1]
    refine ab_ia ok_Mo_workOf rfl rfl (k := lv) (by first | rfl | (simp only [LL1, LL2, LL3, LL4, LL5, LL6, LL7, LL8, LL10, LL15, LL18, LL20, LL21, LL22, LL23, LL24, LL32, LL39, LL40, LL130, LL420, pk_mul, nI_add]; done) | (simp only [LL1, LL2, LL3, LL4, LL5, LL6, LL7, LL8, LL10, LL15, LL18, LL20, LL21, LL22, LL23, LL24, LL32, LL39, LL40, LL130, LL420, pk_mul, nI_add]; congr 1; omega)) (by omega) (Nat.le_of_ble_eq_true rfl) ?_
    show ab_Z m_Mo_workOf _ _ _ 10 [_, _, _, _] [_, _] _
    rw [hC1.1.2.2.2.1.1]
    refine ab_br ok_Mo_workOf rfl rfl ?_ ?_
    · intro h1
      show ab_Z m_Mo_workOf _ _ _ 24 [_, _, _, _] [] _
      exact absurd h1 (lp_in (by omega) hk)
    · intro h1
      show ab_Z m_Mo_workOf _ _ _ 11 [_, _, _, _] [] _
      refine ab_go ok_Mo_workOf 3 rfl ?_
      show ab_Z m_Mo_workOf _ _ _ 14 [_, _, _, _] [_, _, _] _
      refine ab_cl ok_Mo_workOf rfl [_, _, _] [] rfl ⟨_, _, rfl, rfl, Or.inl ⟨_, _, rfl, rfl⟩⟩ (Nat.le_of_ble_eq_true rfl) (t_Mo_canSeal d fm X s1 T t hC1 hc hk) ?_
      rintro _ _ ⟨rfl, s2, rfl, hk2, -⟩
      show ab_Z m_Mo_workOf _ _ _ 15 [_, _, _, _] [_] _
      rw [hk1.row (c := 115) (fun _ => rfl), hVV]
      have ih2 := ih s2 (hk1.tr hk2)
      refine ab_br ok_Mo_workOf rfl rfl ?_ ?_
      · intro hx
        show ab_Z m_Mo_workOf _ _ _ 22 [_, _, _, _] [] _
        refine ab_go ok_Mo_workOf 2 rfl ?_
        show ab_Z m_Mo_workOf _ _ _ 4 [_, _, _, _] [] _
        rw [bitsN_no _ (bB_0.mp hx), nI_succ] at ih2
        exact ih2
      · intro hx
        show ab_Z m_Mo_workOf _ _ _ 16 [_, _, _, _] [] _
        refine ab_go ok_Mo_workOf 8 rfl ?_
        show ab_Z m_Mo_workOf _ _ _ 4 [_, _, _, _] [] _
        rw [bitsN_or (fun e => canB V PT nd c e) (by omega) (bB_n0 hx), ← nI_succ]
        exact ih2
theorem t_Mo_hands (hC : RC s lv T nc nd nt PT PG PB PF) (x : Int32) : ab_T g_Mo_hands (d + 5) (0, 0) [.ref 81, .int x] (HA fm X s t) (PR w4 (if inR nd x then nI (bitsN (fun c => canB (vR T nc nd (s 114)) PT nd c x.toNatClampNeg) nc) else -1) fm X s t) := by
  have h6 := hC.1.2.2.2.1.2
  refine ab_T_of (M := m_Mo_hands) rfl rfl (Nat.le_of_ble_eq_true rfl) ?_
  show ab_Z m_Mo_hands _ _ _ 0 [_, _] [] _
  refine ab_go ok_Mo_hands 2 rfl ?_
  show ab_Z m_Mo_hands _ _ _ 2 [_, _] [_, _] _
  refine ab_cl ok_Mo_hands rfl [_, _] [] rfl ⟨_, _, rfl, rfl, Or.inl ⟨_, _, rfl, rfl⟩⟩ (Nat.le_of_ble_eq_true rfl) (t_Mo_isDeed (d + 3) fm X s T t hC.1 x) ?_
  rintro _ _ ⟨rfl, rfl⟩
  show ab_Z m_Mo_hands _ _ _ 3 [_, _] [_] _
  refine ab_br ok_Mo_hands rfl rfl ?_ ?_
  · intro h1
    show ab_Z m_Mo_hands _ _ _ 4 [_, _] [] _
    refine ab_go ok_Mo_hands 1 rfl ?_
    show ab_Z m_Mo_hands _ _ _ 5 [_, _] [_] _
    exact ab_rI ok_Mo_hands rfl (⟨by rw [if_neg (bI_0.mp h1)], s, rfl, Kr.rf w4 s⟩)
  · intro h1
    show ab_Z m_Mo_hands _ _ _ 6 [_, _] [] _
    rw [if_pos (bI_n0 h1)]
    obtain ⟨e, he, rfl⟩ := inR_nat (bI_n0 h1)
    rw [nI_c (by omega)]
    refine ab_go ok_Mo_hands 1 rfl ?_
    show ab_Z m_Mo_hands _ _ _ 7 [_, _] [_] _
    refine ab_cl ok_Mo_hands rfl [_] [] rfl ⟨_, _, rfl, rfl, Or.inl ⟨_, _, rfl, rfl⟩⟩ (Nat.le_of_ble_eq_true rfl) (t_Mo_copies' (d + 4) fm X s T t hC) ?_
    rintro _ _ ⟨rfl, s1, rfl, k1, hC1, hv1, hl1, h40⟩
    show ab_Z m_Mo_hands _ _ _ 8 [_, _] [] _
    refine ab_go ok_Mo_hands 2 rfl ?_
    show ab_Z m_Mo_hands _ _ _ 10 [_, _] [_, _] _
    refine ab_cl ok_Mo_hands rfl [_, _] [] rfl ⟨_, _, rfl, rfl, Or.inl ⟨_, _, rfl, rfl⟩⟩ (Nat.le_of_ble_eq_true rfl) (t_Mo_handsOf d fm X s1 T t hC1 he) ?_
    rintro _ _ ⟨rfl, s2, rfl, k2⟩
    show ab_Z m_Mo_hands _ _ _ 11 [_, _] [_] _
    rw [hv1]
    exact ab_rI ok_Mo_hands rfl (⟨rfl, s2, rfl, k1.m34.tr k2.m24⟩)
theorem t_Mo_work (hC : RC s lv T nc nd nt PT PG PB PF) (x : Int32) : ab_T g_Mo_work (d + 5) (0, 0) [.ref 81, .int x] (HA fm X s t) (PR w4 (if inR nc x then nI (bitsN (fun e => canB (vR T nc nd (s 114)) PT nd x.toNatClampNeg e) nd) else -1) fm X s t) := by
  have h5 := hC.1.2.2.1.2
  refine ab_T_of (M := m_Mo_work) rfl rfl (Nat.le_of_ble_eq_true rfl) ?_
  show ab_Z m_Mo_work _ _ _ 0 [_, _] [] _
  refine ab_go ok_Mo_work 2 rfl ?_
  show ab_Z m_Mo_work _ _ _ 2 [_, _] [_, _] _
  refine ab_cl ok_Mo_work rfl [_, _] [] rfl ⟨_, _, rfl, rfl, Or.inl ⟨_, _, rfl, rfl⟩⟩ (Nat.le_of_ble_eq_true rfl) (t_Mo_isClerk (d + 3) fm X s T t hC.1 x) ?_
  rintro _ _ ⟨rfl, rfl⟩
  show ab_Z m_Mo_work _ _ _ 3 [_, _] [_] _
  refine ab_br ok_Mo_work rfl rfl ?_ ?_
  · intro h1
    show ab_Z m_Mo_work _ _ _ 4 [_, _] [] _
    refine ab_go ok_Mo_work 1 rfl ?_
    show ab_Z m_Mo_work _ _ _ 5 [_, _] [_] _
    exact ab_rI ok_Mo_work rfl (⟨by rw [if_neg (bI_0.mp h1)], s, rfl, Kr.rf w4 s⟩)
  · intro h1
    show ab_Z m_Mo_work _ _ _ 6 [_, _] [] _
    rw [if_pos (bI_n0 h1)]
    obtain ⟨c, hc, rfl⟩ := inR_nat (bI_n0 h1)
    rw [nI_c (by omega)]
    refine ab_go ok_Mo_work 1 rfl ?_
    show ab_Z m_Mo_work _ _ _ 7 [_, _] [_] _
    refine ab_cl ok_Mo_work rfl [_] [] rfl ⟨_, _, rfl, rfl, Or.inl ⟨_, _, rfl, rfl⟩⟩ (Nat.le_of_ble_eq_true rfl) (t_Mo_copies' (d + 4) fm X s T t hC) ?_
    rintro _ _ ⟨rfl, s1, rfl, k1, hC1, hv1, hl1, h40⟩
    show ab_Z m_Mo_work _ _ _ 8 [_, _] [] _
    refine ab_go ok_Mo_work 2 rfl ?_
    show ab_Z m_Mo_work _ _ _ 10 [_, _] [_, _] _
    refine ab_cl ok_Mo_work rfl [_, _] [] rfl ⟨_, _, rfl, rfl, Or.inl ⟨_, _, rfl, rfl⟩⟩ (Nat.le_of_ble_eq_true rfl) (t_Mo_workOf d fm X s1 T t hC1 hc) ?_
    rintro _ _ ⟨rfl, s2, rfl, k2⟩
    show ab_Z m_Mo_work _ _ _ 11 [_, _] [_] _
    rw [hv1]
    exact ab_rI ok_Mo_work rfl (⟨rfl, s2, rfl, k1.m34.tr k2.m24⟩)
theorem t_Mo_bindsAll (hC : RC s lv T nc nd nt PT PG PB PF) (hI : SI (vR T nc nd (s 115)) nc nd nt) : ab_T g_Mo_bindsAll (d + 3) (0, 0) [.ref 81] (HA fm X s t) (PR w1 (sumV (fun e => bdV (vR T nc nd (s 115)) PB PF nd e 0) nd) fm X s t) := by
  have hlv := hC.1.2.1
  have h6 := hC.1.2.2.2.1.2
  refine ab_T_of (M := m_Mo_bindsAll) rfl rfl (Nat.le_of_ble_eq_true rfl) ?_
  show ab_Z m_Mo_bindsAll _ _ _ 0 [_, _, _] [] _
  refine ab_go ok_Mo_bindsAll 4 rfl ?_
  show ab_Z m_Mo_bindsAll _ _ _ 4 [_, _, _] [] _
  generalize hVV : vR T nc nd (s 115) = V at hI
  refine lp_dn nd (fun k => ∀ s1, Kr w1 s s1 → ab_Z m_Mo_bindsAll (d + 3) (0, 0) (PR w1 (sumV (fun e => bdV V PB PF nd e 0) nd) fm X s t) 4 [some (.ref 81), some (.int (sumV (fun e => bdV V PB PF nd e 0) k)), some (.int (nI k))] [] (HA fm X s1 t)) ?_ ?_ s (Kr.rf w1 s)
  · intro s1 hk1
    have hC1 := hC.k hk1.m14
    refine ab_go ok_Mo_bindsAll 5 rfl ?_
    show ab_Z m_Mo_bindsAll _ _ _ 9 [_, _, _] [_, _, _] _
    rw [hC1.1.1]
    refine ab_ia ok_Mo_bindsAll rfl rfl (k := lv) (by first | rfl | (simp only [LL1, LL2, LL3, LL4, LL5, LL6, LL7, LL8, LL10, LL15, LL18, LL20, LL21, LL22, LL23, LL24, LL32, LL39, LL40, LL130, LL420, pk_mul, nI_add]; done) | (simp only [LL1, LL2, LL3, LL4, LL5, LL6, LL7, LL8, LL10, LL15, LL18, LL20, LL21, LL22, LL23, LL24, LL32, LL39, LL40, LL130, LL420, pk_mul, nI_add]; congr 1; omega)) (by omega) (Nat.le_of_ble_eq_true rfl) ?_
    show ab_Z m_Mo_bindsAll _ _ _ 10 [_, _, _] [_, _] _
    rw [hC1.1.2.2.2.1.1]
    refine ab_br ok_Mo_bindsAll rfl rfl ?_ ?_
    · intro h1
      show ab_Z m_Mo_bindsAll _ _ _ 19 [_, _, _] [] _
      refine ab_go ok_Mo_bindsAll 1 rfl ?_
      show ab_Z m_Mo_bindsAll _ _ _ 20 [_, _, _] [_] _
      exact ab_rI ok_Mo_bindsAll rfl (⟨rfl, s1, rfl, hk1⟩)
    · intro h1
      show ab_Z m_Mo_bindsAll _ _ _ 11 [_, _, _] [] _
      exact absurd (lp_out nd) h1
  · intro k hk ih s1 hk1
    have hC1 := hC.k hk1.m14
    have hv : vR T nc nd (s1 115) = V := by rw [hk1.row (c := 115) (fun _ => rfl), hVV]
    refine ab_go ok_Mo_bindsAll 5 rfl ?_
    show ab_Z m_Mo_bindsAll _ _ _ 9 [_, _, _] [_, _, _] _
    rw [hC1.1.1]
    refine ab_ia ok_Mo_bindsAll rfl rfl (k := lv) (by first | rfl | (simp only [LL1, LL2, LL3, LL4, LL5, LL6, LL7, LL8, LL10, LL15, LL18, LL20, LL21, LL22, LL23, LL24, LL32, LL39, LL40, LL130, LL420, pk_mul, nI_add]; done) | (simp only [LL1, LL2, LL3, LL4, LL5, LL6, LL7, LL8, LL10, LL15, LL18, LL20, LL21, LL22, LL23, LL24, LL32, LL39, LL40, LL130, LL420, pk_mul, nI_add]; congr 1; omega)) (by omega) (Nat.le_of_ble_eq_true rfl) ?_
    show ab_Z m_Mo_bindsAll _ _ _ 10 [_, _, _] [_, _] _
    rw [hC1.1.2.2.2.1.1]
    refine ab_br ok_Mo_bindsAll rfl rfl ?_ ?_
    · intro h1
      show ab_Z m_Mo_bindsAll _ _ _ 19 [_, _, _] [] _
      exact absurd h1 (lp_in (by omega) hk)
    · intro h1
      show ab_Z m_Mo_bindsAll _ _ _ 11 [_, _, _] [] _
      refine ab_go ok_Mo_bindsAll 3 rfl ?_
      show ab_Z m_Mo_bindsAll _ _ _ 14 [_, _, _] [_, _, _] _
      refine ab_cl ok_Mo_bindsAll rfl [_, _] [_] rfl ⟨_, _, rfl, rfl, Or.inl ⟨_, _, rfl, rfl⟩⟩ (Nat.le_of_ble_eq_true rfl) (t_Mo_bindsOf d fm X s1 T t hC1 (by rw [hv]; exact hI) hk) ?_
      rintro _ _ ⟨rfl, s2, rfl, hk2⟩
      show ab_Z m_Mo_bindsAll _ _ _ 15 [_, _, _] [_, _] _
      rw [hv]
      refine ab_go ok_Mo_bindsAll 4 rfl ?_
      show ab_Z m_Mo_bindsAll _ _ _ 4 [_, _, _] [] _
      have ih2 := ih s2 (hk1.tr hk2)
      rw [sumV, nI_succ] at ih2
      exact ih2
theorem t_Mo_levelIn (hC : RC s lv T nc nd nt PT PG PB PF) (hQ : QI (vR T nc nd (s 114)) nc nd nt) (x y z : Int32) : ab_T g_Mo_levelIn (d + 5) (0, 0) [.ref 81, .int x, .int y, .int z] (HA fm X s t) (PR w4 (if inR (if 1 = 1 then nc else nd) x ∧ inR 3 y ∧ inR 41 z then (if 1 = 1 then levA (vR T nc nd (s 114)) PG nd x.toNatClampNeg y.toNatClampNeg z.toNatClampNeg else prtA (vR T nc nd (s 114)) PF x.toNatClampNeg y.toNatClampNeg z.toNatClampNeg) else -1) fm X s t) := by
  have h5 := hC.1.2.2.1.2
  have h6 := hC.1.2.2.2.1.2
  generalize hPo : PR w4 (if inR (if 1 = 1 then nc else nd) x ∧ inR 3 y ∧ inR 41 z then (if 1 = 1 then levA (vR T nc nd (s 114)) PG nd x.toNatClampNeg y.toNatClampNeg z.toNatClampNeg else prtA (vR T nc nd (s 114)) PF x.toNatClampNeg y.toNatClampNeg z.toNatClampNeg) else -1) fm X s t = Po
  have no : ¬ (inR (if 1 = 1 then nc else nd) x ∧ inR 3 y ∧ inR 41 z) → ab_Z m_Mo_levelIn (d + 5) (0, 0) Po 10 [some (.ref 81), some (.int x), some (.int y), some (.int z)] [] (HA fm X s t) := by
    intro hn
    rw [if_neg hn] at hPo
    refine ab_go ok_Mo_levelIn 1 rfl ?_
    show ab_Z m_Mo_levelIn _ _ _ 11 [_, _, _, _] [_] _
    have fin : Po (some (.int (-1))) (HA fm X s t) := by
      rw [← hPo]
      exact ⟨rfl, s, rfl, Kr.rf w4 s⟩
    exact ab_rI ok_Mo_levelIn rfl (fin)
  refine ab_T_of (M := m_Mo_levelIn) rfl rfl (Nat.le_of_ble_eq_true rfl) ?_
  show ab_Z m_Mo_levelIn _ _ _ 0 [_, _, _, _] [] _
  refine ab_go ok_Mo_levelIn 2 rfl ?_
  show ab_Z m_Mo_levelIn _ _ _ 2 [_, _, _, _] [_, _] _
  refine ab_cl ok_Mo_levelIn rfl [_, _] [] rfl ⟨_, _, rfl, rfl, Or.inl ⟨_, _, rfl, rfl⟩⟩ (Nat.le_of_ble_eq_true rfl) (t_Mo_isClerk (d + 3) fm X s T t hC.1 x) ?_
  rintro _ _ ⟨rfl, rfl⟩
  show ab_Z m_Mo_levelIn _ _ _ 3 [_, _, _, _] [_] _
  refine ab_br ok_Mo_levelIn rfl rfl ?_ ?_
  · intro h1
    show ab_Z m_Mo_levelIn _ _ _ 10 [_, _, _, _] [] _
    exact no (fun q => bI_0.mp h1 q.1)
  · intro h1
    show ab_Z m_Mo_levelIn _ _ _ 4 [_, _, _, _] [] _
    refine ab_go ok_Mo_levelIn 1 rfl ?_
    show ab_Z m_Mo_levelIn _ _ _ 5 [_, _, _, _] [_] _
    refine ab_cl ok_Mo_levelIn rfl [_] [] rfl rfl (Nat.le_of_ble_eq_true rfl) (t_Mo_isFeature (d + 3) _ y) ?_
    rintro _ _ ⟨rfl, rfl⟩
    show ab_Z m_Mo_levelIn _ _ _ 6 [_, _, _, _] [_] _
    refine ab_br ok_Mo_levelIn rfl rfl ?_ ?_
    · intro h2
      show ab_Z m_Mo_levelIn _ _ _ 10 [_, _, _, _] [] _
      exact no (fun q => bI_0.mp h2 q.2.1)
    · intro h2
      show ab_Z m_Mo_levelIn _ _ _ 7 [_, _, _, _] [] _
      refine ab_go ok_Mo_levelIn 1 rfl ?_
      show ab_Z m_Mo_levelIn _ _ _ 8 [_, _, _, _] [_] _
      refine ab_cl ok_Mo_levelIn rfl [_] [] rfl rfl (Nat.le_of_ble_eq_true rfl) (t_Mo_isLong (d + 3) _ z) ?_
      rintro _ _ ⟨rfl, rfl⟩
      show ab_Z m_Mo_levelIn _ _ _ 9 [_, _, _, _] [_] _
      refine ab_br ok_Mo_levelIn rfl rfl ?_ ?_
      · intro h3
        show ab_Z m_Mo_levelIn _ _ _ 10 [_, _, _, _] [] _
        exact no (fun q => bI_0.mp h3 q.2.2)
      · intro h3
        show ab_Z m_Mo_levelIn _ _ _ 12 [_, _, _, _] [] _
        rw [if_pos ⟨bI_n0 h1, bI_n0 h2, bI_n0 h3⟩] at hPo
        obtain ⟨c, hc, rfl⟩ := inR_nat (bI_n0 h1)
        obtain ⟨f, hf, rfl⟩ := inR_nat (bI_n0 h2)
        obtain ⟨n, hn, rfl⟩ := inR_nat (bI_n0 h3)
        rw [nI_c (by omega), nI_c (by omega), nI_c (by omega)] at hPo
        refine ab_go ok_Mo_levelIn 1 rfl ?_
        show ab_Z m_Mo_levelIn _ _ _ 13 [_, _, _, _] [_] _
        refine ab_cl ok_Mo_levelIn rfl [_] [] rfl ⟨_, _, rfl, rfl, Or.inl ⟨_, _, rfl, rfl⟩⟩ (Nat.le_of_ble_eq_true rfl) (t_Mo_copies' (d + 4) fm X s T t hC) ?_
        rintro _ _ ⟨rfl, s1, rfl, k1, hC1, hv1, hl1, h40⟩
        show ab_Z m_Mo_levelIn _ _ _ 14 [_, _, _, _] [] _
        refine ab_go ok_Mo_levelIn 2 rfl ?_
        show ab_Z m_Mo_levelIn _ _ _ 16 [_, _, _, _] [_, _] _
        refine ab_cl ok_Mo_levelIn rfl [_, _] [] rfl ⟨_, _, rfl, rfl, Or.inl ⟨_, _, rfl, rfl⟩⟩ (Nat.le_of_ble_eq_true rfl) (t_Mo_goes d fm X s1 T t hC1 (by rw [hv1]; exact hQ.2) (show n < 1000 by omega)) ?_
        rintro _ _ ⟨rfl, s2, rfl, k2, -, hv2, -⟩
        show ab_Z m_Mo_levelIn _ _ _ 17 [_, _, _, _] [] _
        rw [hv1] at hv2
        refine ab_go ok_Mo_levelIn 7 rfl ?_
        show ab_Z m_Mo_levelIn _ _ _ 24 [_, _, _, _] [_, _] _
        refine ab_ia ok_Mo_levelIn rfl rfl (k := (3 * c + f)) (by first | rfl | (simp only [LL1, LL2, LL3, LL4, LL5, LL6, LL7, LL8, LL10, LL15, LL18, LL20, LL21, LL22, LL23, LL24, LL32, LL39, LL40, LL130, LL420, pk_mul, nI_add]; done) | (simp only [LL1, LL2, LL3, LL4, LL5, LL6, LL7, LL8, LL10, LL15, LL18, LL20, LL21, LL22, LL23, LL24, LL32, LL39, LL40, LL130, LL420, pk_mul, nI_add]; congr 1; omega)) (by omega) (Nat.le_of_ble_eq_true rfl) ?_
        show ab_Z m_Mo_levelIn _ _ _ 25 [_, _, _, _] [_] _
        have fin : Po (some (.int (s2 115 (3 * c + f)))) (HA fm X s2 t) := by
          rw [← hPo]
          refine ⟨som ?_, s2, rfl, k1.m34.tr k2.m34⟩
          rw [← vR_l (T := T) (nd := nd) (r := s2 115) hc hf, hv2, rowN_11]
          exact (rowN_spec (vR T nc nd (s 114)) PG PF h5 h6 n).2.2.1 c f hc hf
        exact ab_rI ok_Mo_levelIn rfl (fin)
theorem t_Mo_printIn (hC : RC s lv T nc nd nt PT PG PB PF) (hQ : QI (vR T nc nd (s 114)) nc nd nt) (x y z : Int32) : ab_T g_Mo_printIn (d + 5) (0, 0) [.ref 81, .int x, .int y, .int z] (HA fm X s t) (PR w4 (if inR (if 0 = 1 then nc else nd) x ∧ inR 3 y ∧ inR 41 z then (if 0 = 1 then levA (vR T nc nd (s 114)) PG nd x.toNatClampNeg y.toNatClampNeg z.toNatClampNeg else prtA (vR T nc nd (s 114)) PF x.toNatClampNeg y.toNatClampNeg z.toNatClampNeg) else -1) fm X s t) := by
  have h5 := hC.1.2.2.1.2
  have h6 := hC.1.2.2.2.1.2
  generalize hPo : PR w4 (if inR (if 0 = 1 then nc else nd) x ∧ inR 3 y ∧ inR 41 z then (if 0 = 1 then levA (vR T nc nd (s 114)) PG nd x.toNatClampNeg y.toNatClampNeg z.toNatClampNeg else prtA (vR T nc nd (s 114)) PF x.toNatClampNeg y.toNatClampNeg z.toNatClampNeg) else -1) fm X s t = Po
  have no : ¬ (inR (if 0 = 1 then nc else nd) x ∧ inR 3 y ∧ inR 41 z) → ab_Z m_Mo_printIn (d + 5) (0, 0) Po 10 [some (.ref 81), some (.int x), some (.int y), some (.int z)] [] (HA fm X s t) := by
    intro hn
    rw [if_neg hn] at hPo
    refine ab_go ok_Mo_printIn 1 rfl ?_
    show ab_Z m_Mo_printIn _ _ _ 11 [_, _, _, _] [_] _
    have fin : Po (some (.int (-1))) (HA fm X s t) := by
      rw [← hPo]
      exact ⟨rfl, s, rfl, Kr.rf w4 s⟩
    exact ab_rI ok_Mo_printIn rfl (fin)
  refine ab_T_of (M := m_Mo_printIn) rfl rfl (Nat.le_of_ble_eq_true rfl) ?_
  show ab_Z m_Mo_printIn _ _ _ 0 [_, _, _, _] [] _
  refine ab_go ok_Mo_printIn 2 rfl ?_
  show ab_Z m_Mo_printIn _ _ _ 2 [_, _, _, _] [_, _] _
  refine ab_cl ok_Mo_printIn rfl [_, _] [] rfl ⟨_, _, rfl, rfl, Or.inl ⟨_, _, rfl, rfl⟩⟩ (Nat.le_of_ble_eq_true rfl) (t_Mo_isDeed (d + 3) fm X s T t hC.1 x) ?_
  rintro _ _ ⟨rfl, rfl⟩
  show ab_Z m_Mo_printIn _ _ _ 3 [_, _, _, _] [_] _
  refine ab_br ok_Mo_printIn rfl rfl ?_ ?_
  · intro h1
    show ab_Z m_Mo_printIn _ _ _ 10 [_, _, _, _] [] _
    exact no (fun q => bI_0.mp h1 q.1)
  · intro h1
    show ab_Z m_Mo_printIn _ _ _ 4 [_, _, _, _] [] _
    refine ab_go ok_Mo_printIn 1 rfl ?_
    show ab_Z m_Mo_printIn _ _ _ 5 [_, _, _, _] [_] _
    refine ab_cl ok_Mo_printIn rfl [_] [] rfl rfl (Nat.le_of_ble_eq_true rfl) (t_Mo_isFeature (d + 3) _ y) ?_
    rintro _ _ ⟨rfl, rfl⟩
    show ab_Z m_Mo_printIn _ _ _ 6 [_, _, _, _] [_] _
    refine ab_br ok_Mo_printIn rfl rfl ?_ ?_
    · intro h2
      show ab_Z m_Mo_printIn _ _ _ 10 [_, _, _, _] [] _
      exact no (fun q => bI_0.mp h2 q.2.1)
    · intro h2
      show ab_Z m_Mo_printIn _ _ _ 7 [_, _, _, _] [] _
      refine ab_go ok_Mo_printIn 1 rfl ?_
      show ab_Z m_Mo_printIn _ _ _ 8 [_, _, _, _] [_] _
      refine ab_cl ok_Mo_printIn rfl [_] [] rfl rfl (Nat.le_of_ble_eq_true rfl) (t_Mo_isLong (d + 3) _ z) ?_
      rintro _ _ ⟨rfl, rfl⟩
      show ab_Z m_Mo_printIn _ _ _ 9 [_, _, _, _] [_] _
      refine ab_br ok_Mo_printIn rfl rfl ?_ ?_
      · intro h3
        show ab_Z m_Mo_printIn _ _ _ 10 [_, _, _, _] [] _
        exact no (fun q => bI_0.mp h3 q.2.2)
      · intro h3
        show ab_Z m_Mo_printIn _ _ _ 12 [_, _, _, _] [] _
        rw [if_pos ⟨bI_n0 h1, bI_n0 h2, bI_n0 h3⟩] at hPo
        obtain ⟨c, hc, rfl⟩ := inR_nat (bI_n0 h1)
        obtain ⟨f, hf, rfl⟩ := inR_nat (bI_n0 h2)
        obtain ⟨n, hn, rfl⟩ := inR_nat (bI_n0 h3)
        rw [nI_c (by omega), nI_c (by omega), nI_c (by omega)] at hPo
        refine ab_go ok_Mo_printIn 1 rfl ?_
        show ab_Z m_Mo_printIn _ _ _ 13 [_, _, _, _] [_] _
        refine ab_cl ok_Mo_printIn rfl [_] [] rfl ⟨_, _, rfl, rfl, Or.inl ⟨_, _, rfl, rfl⟩⟩ (Nat.le_of_ble_eq_true rfl) (t_Mo_copies' (d + 4) fm X s T t hC) ?_
        rintro _ _ ⟨rfl, s1, rfl, k1, hC1, hv1, hl1, h40⟩
        show ab_Z m_Mo_printIn _ _ _ 14 [_, _, _, _] [] _
        refine ab_go ok_Mo_printIn 2 rfl ?_
        show ab_Z m_Mo_printIn _ _ _ 16 [_, _, _, _] [_, _] _
        refine ab_cl ok_Mo_printIn rfl [_, _] [] rfl ⟨_, _, rfl, rfl, Or.inl ⟨_, _, rfl, rfl⟩⟩ (Nat.le_of_ble_eq_true rfl) (t_Mo_goes d fm X s1 T t hC1 (by rw [hv1]; exact hQ.2) (show n < 1000 by omega)) ?_
        rintro _ _ ⟨rfl, s2, rfl, k2, -, hv2, -⟩
        show ab_Z m_Mo_printIn _ _ _ 17 [_, _, _, _] [] _
        rw [hv1] at hv2
        refine ab_go ok_Mo_printIn 9 rfl ?_
        show ab_Z m_Mo_printIn _ _ _ 26 [_, _, _, _] [_, _] _
        refine ab_ia ok_Mo_printIn rfl rfl (k := (21 + 3 * c + f)) (by first | rfl | (simp only [LL1, LL2, LL3, LL4, LL5, LL6, LL7, LL8, LL10, LL15, LL18, LL20, LL21, LL22, LL23, LL24, LL32, LL39, LL40, LL130, LL420, pk_mul, nI_add]; done) | (simp only [LL1, LL2, LL3, LL4, LL5, LL6, LL7, LL8, LL10, LL15, LL18, LL20, LL21, LL22, LL23, LL24, LL32, LL39, LL40, LL130, LL420, pk_mul, nI_add]; congr 1; omega)) (by omega) (Nat.le_of_ble_eq_true rfl) ?_
        show ab_Z m_Mo_printIn _ _ _ 27 [_, _, _, _] [_] _
        have fin : Po (some (.int (s2 115 (21 + 3 * c + f)))) (HA fm X s2 t) := by
          rw [← hPo]
          refine ⟨som ?_, s2, rfl, k1.m34.tr k2.m34⟩
          rw [← vR_p (T := T) (r := s2 115) h5 hc hf, hv2, rowN_11]
          exact (rowN_spec (vR T nc nd (s 114)) PG PF h5 h6 n).2.2.2 c f hc hf
        exact ab_rI ok_Mo_printIn rfl (fin)
theorem t_Mo_bindsIn (hC : RC s lv T nc nd nt PT PG PB PF) (hQ : QI (vR T nc nd (s 114)) nc nd nt) (z : Int32) : ab_T g_Mo_bindsIn (d + 5) (0, 0) [.ref 81, .int z] (HA fm X s t) (PR w4 (if inR 41 z then sumV (fun e => bdV (vR T nc nd (s 114)) PB PF nd e z.toNatClampNeg) nd else -1) fm X s t) := by
  have h5 := hC.1.2.2.1.2
  have h6 := hC.1.2.2.2.1.2
  refine ab_T_of (M := m_Mo_bindsIn) rfl rfl (Nat.le_of_ble_eq_true rfl) ?_
  show ab_Z m_Mo_bindsIn _ _ _ 0 [_, _] [] _
  refine ab_go ok_Mo_bindsIn 1 rfl ?_
  show ab_Z m_Mo_bindsIn _ _ _ 1 [_, _] [_] _
  refine ab_cl ok_Mo_bindsIn rfl [_] [] rfl rfl (Nat.le_of_ble_eq_true rfl) (t_Mo_isLong (d + 3) _ z) ?_
  rintro _ _ ⟨rfl, rfl⟩
  show ab_Z m_Mo_bindsIn _ _ _ 2 [_, _] [_] _
  refine ab_br ok_Mo_bindsIn rfl rfl ?_ ?_
  · intro h1
    show ab_Z m_Mo_bindsIn _ _ _ 3 [_, _] [] _
    refine ab_go ok_Mo_bindsIn 1 rfl ?_
    show ab_Z m_Mo_bindsIn _ _ _ 4 [_, _] [_] _
    exact ab_rI ok_Mo_bindsIn rfl (⟨by rw [if_neg (bI_0.mp h1)], s, rfl, Kr.rf w4 s⟩)
  · intro h1
    show ab_Z m_Mo_bindsIn _ _ _ 5 [_, _] [] _
    rw [if_pos (bI_n0 h1)]
    obtain ⟨n, hn, rfl⟩ := inR_nat (bI_n0 h1)
    rw [nI_c (by omega)]
    refine ab_go ok_Mo_bindsIn 1 rfl ?_
    show ab_Z m_Mo_bindsIn _ _ _ 6 [_, _] [_] _
    refine ab_cl ok_Mo_bindsIn rfl [_] [] rfl ⟨_, _, rfl, rfl, Or.inl ⟨_, _, rfl, rfl⟩⟩ (Nat.le_of_ble_eq_true rfl) (t_Mo_copies' (d + 4) fm X s T t hC) ?_
    rintro _ _ ⟨rfl, s1, rfl, k1, hC1, hv1, hl1, h40⟩
    show ab_Z m_Mo_bindsIn _ _ _ 7 [_, _] [] _
    refine ab_go ok_Mo_bindsIn 2 rfl ?_
    show ab_Z m_Mo_bindsIn _ _ _ 9 [_, _] [_, _] _
    refine ab_cl ok_Mo_bindsIn rfl [_, _] [] rfl ⟨_, _, rfl, rfl, Or.inl ⟨_, _, rfl, rfl⟩⟩ (Nat.le_of_ble_eq_true rfl) (t_Mo_goes d fm X s1 T t hC1 (by rw [hv1]; exact hQ.2) (show n < 1000 by omega)) ?_
    rintro _ _ ⟨rfl, s2, rfl, k2, -, hv2, -⟩
    show ab_Z m_Mo_bindsIn _ _ _ 10 [_, _] [] _
    rw [hv1] at hv2
    refine ab_go ok_Mo_bindsIn 1 rfl ?_
    show ab_Z m_Mo_bindsIn _ _ _ 11 [_, _] [_] _
    refine ab_cl ok_Mo_bindsIn rfl [_] [] rfl ⟨_, _, rfl, rfl, Or.inl ⟨_, _, rfl, rfl⟩⟩ (Nat.le_of_ble_eq_true rfl) (t_Mo_bindsAll (d + 1) fm X s2 T t (hC1.k k2.m34) (by rw [hv2]; exact SI_N h5 h6 hQ.1 n)) ?_
    rintro _ _ ⟨rfl, s3, rfl, k3⟩
    show ab_Z m_Mo_bindsIn _ _ _ 12 [_, _] [_] _
    rw [hv2, sumV_cg (fun e he => bdV_N PB h5 h6 he n)]
    exact ab_rI ok_Mo_bindsIn rfl (⟨rfl, s3, rfl, (k1.m34.tr k2.m34).tr k3.m14⟩)
theorem t_Mo_lotOf (x : Int32) : ab_T g_Mo_lotOf (d + 1) (0, 0) [.ref 81, .int x] (HA fm X s t) (PI (lotF (s 81 52) x) (HA fm X s t)) := by
  refine ab_T_of (M := m_Mo_lotOf) rfl rfl (Nat.le_of_ble_eq_true rfl) ?_
  show ab_Z m_Mo_lotOf _ _ _ 0 [_, _] [] _
  refine ab_go ok_Mo_lotOf 3 rfl ?_
  show ab_Z m_Mo_lotOf _ _ _ 3 [_, _] [_, _] _
  refine ab_cl ok_Mo_lotOf rfl [_, _] [] rfl rfl (Nat.le_of_ble_eq_true rfl) (t_Mo_mixed d _ _ _) ?_
  rintro _ _ ⟨rfl, rfl⟩
  show ab_Z m_Mo_lotOf _ _ _ 4 [_, _] [_] _
  refine ab_go ok_Mo_lotOf 1 rfl ?_
  show ab_Z m_Mo_lotOf _ _ _ 5 [_, _] [_, _] _
  refine ab_cl ok_Mo_lotOf rfl [_, _] [] rfl rfl (Nat.le_of_ble_eq_true rfl) (t_Mo_mixed d _ _ _) ?_
  rintro _ _ ⟨rfl, rfl⟩
  show ab_Z m_Mo_lotOf _ _ _ 6 [_, _] [_] _
  refine ab_go ok_Mo_lotOf 3 rfl ?_
  show ab_Z m_Mo_lotOf _ _ _ 9 [_, _] [_, _] _
  refine ab_go ok_Mo_lotOf 1 rfl ?_
  show ab_Z m_Mo_lotOf _ _ _ 10 [_, _] [_] _
  exact ab_rI ok_Mo_lotOf rfl (⟨rfl, rfl⟩)
theorem t_Mo_readsOf (hC : RC s lv T nc nd nt PT PG PB PF) (hT : T 14 11 = nI nc) (hI : SI (vR T nc nd (s 115)) nc nd nt) {e : Nat} (he : e < nd) (hn : ¬ s 115 (15 + e) < 0) : ab_T g_Mo_readsOf (d + 2) (0, 0) [.ref 81, .int (nI e)] (HA fm X s t) (PI (rdV (vR T nc nd (s 115)) e (s 81 52)) (HA fm X s t)) := by
  have hR := hC.1
  have hlv := hR.2.1
  have h5 := hR.2.2.1.2
  have h6 := hR.2.2.2.1.2
  have hsl := fun hn => hI.sl he hn
  unfold rdV
  rw [vR_s h5 h6 he] at hsl ⊢
  obtain ⟨c, hc, hsc⟩ := hsl hn
  rw [vR_y h5 h6, vR_o (show (14 : Nat) ≠ 11 by decide), hT, hsc]
  refine ab_T_of (M := m_Mo_readsOf) rfl rfl (Nat.le_of_ble_eq_true rfl) ?_
  show ab_Z m_Mo_readsOf _ _ _ 0 [_, _, _] [] _
  refine ab_go ok_Mo_readsOf 5 rfl ?_
  show ab_Z m_Mo_readsOf _ _ _ 5 [_, _, _] [_, _] _
  refine ab_ia ok_Mo_readsOf rfl rfl (k := (15 + e)) (by first | rfl | (simp only [LL1, LL2, LL3, LL4, LL5, LL6, LL7, LL8, LL10, LL15, LL18, LL20, LL21, LL22, LL23, LL24, LL32, LL39, LL40, LL130, LL420, pk_mul, nI_add]; done) | (simp only [LL1, LL2, LL3, LL4, LL5, LL6, LL7, LL8, LL10, LL15, LL18, LL20, LL21, LL22, LL23, LL24, LL32, LL39, LL40, LL130, LL420, pk_mul, nI_add]; congr 1; omega)) (by omega) (Nat.le_of_ble_eq_true rfl) ?_
  show ab_Z m_Mo_readsOf _ _ _ 6 [_, _, _] [_] _
  rw [hsc]
  refine ab_go ok_Mo_readsOf 6 rfl ?_
  show ab_Z m_Mo_readsOf _ _ _ 12 [_, _, _] [_, _, _, _] _
  refine ab_go ok_Mo_readsOf 1 rfl ?_
  show ab_Z m_Mo_readsOf _ _ _ 13 [_, _, _] [_, _, _] _
  refine ab_go ok_Mo_readsOf 3 rfl ?_
  show ab_Z m_Mo_readsOf _ _ _ 16 [_, _, _] [_, _] _
  refine ab_cl ok_Mo_readsOf rfl [_, _] [] rfl ⟨_, _, rfl, rfl, Or.inl ⟨_, _, rfl, rfl⟩⟩ (Nat.le_of_ble_eq_true rfl) (t_Mo_lotOf d fm X s t _) ?_
  rintro _ _ ⟨rfl, rfl⟩
  show ab_Z m_Mo_readsOf _ _ _ 17 [_, _, _] [_] _
  refine ab_go ok_Mo_readsOf 4 rfl ?_
  show ab_Z m_Mo_readsOf _ _ _ 21 [_, _, _] [_, _, _] _
  rw [hR.1]
  refine ab_ia ok_Mo_readsOf rfl rfl (k := lv) (by first | rfl | (simp only [LL1, LL2, LL3, LL4, LL5, LL6, LL7, LL8, LL10, LL15, LL18, LL20, LL21, LL22, LL23, LL24, LL32, LL39, LL40, LL130, LL420, pk_mul, nI_add]; done) | (simp only [LL1, LL2, LL3, LL4, LL5, LL6, LL7, LL8, LL10, LL15, LL18, LL20, LL21, LL22, LL23, LL24, LL32, LL39, LL40, LL130, LL420, pk_mul, nI_add]; congr 1; omega)) (by omega) (Nat.le_of_ble_eq_true rfl) ?_
  show ab_Z m_Mo_readsOf _ _ _ 22 [_, _, _] [_, _] _
  rw [hR.2.2.2.2.2.2.2.2.2.2.1]
  refine ab_br ok_Mo_readsOf rfl rfl ?_ ?_
  · intro h1
    show ab_Z m_Mo_readsOf _ _ _ 33 [_, _, _] [] _
    refine ab_go ok_Mo_readsOf 1 rfl ?_
    show ab_Z m_Mo_readsOf _ _ _ 34 [_, _, _] [_] _
    exact ab_rI ok_Mo_readsOf rfl (⟨som (by rw [if_neg (fun z => by have := i_lt z; have := i_le h1; exact absurd this (by show ¬ _ ≤ _; exact Int.not_le.mpr (by assumption)))]), rfl⟩)
  · intro h1
    show ab_Z m_Mo_readsOf _ _ _ 23 [_, _, _] [] _
    refine ab_go ok_Mo_readsOf 7 rfl ?_
    show ab_Z m_Mo_readsOf _ _ _ 30 [_, _, _] [_, _, _] _
    rw [hR.1]
    refine ab_ia ok_Mo_readsOf rfl rfl (k := lv) (by first | rfl | (simp only [LL1, LL2, LL3, LL4, LL5, LL6, LL7, LL8, LL10, LL15, LL18, LL20, LL21, LL22, LL23, LL24, LL32, LL39, LL40, LL130, LL420, pk_mul, nI_add]; done) | (simp only [LL1, LL2, LL3, LL4, LL5, LL6, LL7, LL8, LL10, LL15, LL18, LL20, LL21, LL22, LL23, LL24, LL32, LL39, LL40, LL130, LL420, pk_mul, nI_add]; congr 1; omega)) (by omega) (Nat.le_of_ble_eq_true rfl) ?_
    show ab_Z m_Mo_readsOf _ _ _ 31 [_, _, _] [_, _] _
    rw [hR.2.2.1.1]
    refine ab_ck ok_Mo_readsOf rfl rfl (fun z => by have := (nI_z (by omega)).mp z; omega) ?_
    show ab_Z m_Mo_readsOf _ _ _ 32 [_, _, _] [_] _
    refine ab_go ok_Mo_readsOf 1 rfl ?_
    show ab_Z m_Mo_readsOf _ _ _ 34 [_, _, _] [_] _
    exact ab_rI ok_Mo_readsOf rfl (⟨som (by rw [if_pos (show lotF (s 81 52) (8 * s 115 39 + nI e) < T 14 14 from Int32.lt_iff_toInt_lt.mpr (i_nle h1))]; exact md_n nc h5 c hc), rfl⟩)
theorem t_Mo_reads (hC : RC s lv T nc nd nt PT PG PB PF) (hT : T 14 11 = nI nc) (hQ : QI (vR T nc nd (s 114)) nc nd nt) (x : Int32) : ab_T g_Mo_reads (d + 3) (0, 0) [.ref 81, .int x] (HA fm X s t) (PR w4 (if inR nd x then (if vR T nc nd (s 114) 11 (33 + x.toNatClampNeg) < 0 then -2 else rdV (vR T nc nd (s 114)) x.toNatClampNeg (vR T nc nd (s 114) 14 15)) else -1) fm X s t) := by
  have h5 := hC.1.2.2.1.2
  have h6 := hC.1.2.2.2.1.2
  refine ab_T_of (M := m_Mo_reads) rfl rfl (Nat.le_of_ble_eq_true rfl) ?_
  show ab_Z m_Mo_reads _ _ _ 0 [_, _] [] _
  refine ab_go ok_Mo_reads 2 rfl ?_
  show ab_Z m_Mo_reads _ _ _ 2 [_, _] [_, _] _
  refine ab_cl ok_Mo_reads rfl [_, _] [] rfl ⟨_, _, rfl, rfl, Or.inl ⟨_, _, rfl, rfl⟩⟩ (Nat.le_of_ble_eq_true rfl) (t_Mo_isDeed (d + 1) fm X s T t hC.1 x) ?_
  rintro _ _ ⟨rfl, rfl⟩
  show ab_Z m_Mo_reads _ _ _ 3 [_, _] [_] _
  refine ab_br ok_Mo_reads rfl rfl ?_ ?_
  · intro h1
    show ab_Z m_Mo_reads _ _ _ 4 [_, _] [] _
    refine ab_go ok_Mo_reads 1 rfl ?_
    show ab_Z m_Mo_reads _ _ _ 5 [_, _] [_] _
    exact ab_rI ok_Mo_reads rfl (⟨by rw [if_neg (bI_0.mp h1)], s, rfl, Kr.rf w4 s⟩)
  · intro h1
    show ab_Z m_Mo_reads _ _ _ 6 [_, _] [] _
    rw [if_pos (bI_n0 h1)]
    obtain ⟨e, he, rfl⟩ := inR_nat (bI_n0 h1)
    rw [nI_c (by omega)]
    refine ab_go ok_Mo_reads 1 rfl ?_
    show ab_Z m_Mo_reads _ _ _ 7 [_, _] [_] _
    refine ab_cl ok_Mo_reads rfl [_] [] rfl ⟨_, _, rfl, rfl, Or.inl ⟨_, _, rfl, rfl⟩⟩ (Nat.le_of_ble_eq_true rfl) (t_Mo_copies' (d + 2) fm X s T t hC) ?_
    rintro _ _ ⟨rfl, s1, rfl, k1, hC1, hv1, hl1, h40⟩
    show ab_Z m_Mo_reads _ _ _ 8 [_, _] [] _
    rw [← hv1] at hQ ⊢
    rw [vR_s h5 h6 he]
    refine ab_go ok_Mo_reads 5 rfl ?_
    show ab_Z m_Mo_reads _ _ _ 13 [_, _] [_, _] _
    refine ab_ia ok_Mo_reads rfl rfl (k := (15 + e)) (by first | rfl | (simp only [LL1, LL2, LL3, LL4, LL5, LL6, LL7, LL8, LL10, LL15, LL18, LL20, LL21, LL22, LL23, LL24, LL32, LL39, LL40, LL130, LL420, pk_mul, nI_add]; done) | (simp only [LL1, LL2, LL3, LL4, LL5, LL6, LL7, LL8, LL10, LL15, LL18, LL20, LL21, LL22, LL23, LL24, LL32, LL39, LL40, LL130, LL420, pk_mul, nI_add]; congr 1; omega)) (by omega) (Nat.le_of_ble_eq_true rfl) ?_
    show ab_Z m_Mo_reads _ _ _ 14 [_, _] [_] _
    refine ab_br ok_Mo_reads rfl rfl ?_ ?_
    · intro h2
      show ab_Z m_Mo_reads _ _ _ 17 [_, _] [] _
      have hn : ¬ s1 115 (15 + e) < 0 := fun z => by have := i_lt z; have := i_le h2; omega
      refine ab_go ok_Mo_reads 2 rfl ?_
      show ab_Z m_Mo_reads _ _ _ 19 [_, _] [_, _] _
      refine ab_cl ok_Mo_reads rfl [_, _] [] rfl ⟨_, _, rfl, rfl, Or.inl ⟨_, _, rfl, rfl⟩⟩ (Nat.le_of_ble_eq_true rfl) (t_Mo_readsOf d fm X s1 T t hC1 hT hQ.1 he hn) ?_
      rintro _ _ ⟨rfl, rfl⟩
      show ab_Z m_Mo_reads _ _ _ 20 [_, _] [_] _
      exact ab_rI ok_Mo_reads rfl (⟨som (by rw [if_neg hn, hl1]; rfl), s1, rfl, k1.m34⟩)
    · intro h2
      show ab_Z m_Mo_reads _ _ _ 15 [_, _] [] _
      refine ab_go ok_Mo_reads 2 rfl ?_
      show ab_Z m_Mo_reads _ _ _ 20 [_, _] [_] _
      exact ab_rI ok_Mo_reads rfl (⟨som (by rw [if_pos (Int32.lt_iff_toInt_lt.mpr (i_nle h2))]), s1, rfl, k1.m34⟩)
end

