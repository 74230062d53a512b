/-! the reference's face: the greatest, the weakest, the barest -/
theorem in01 (w : Int32) : ((0 : Int32).toInt ≤ w.toInt ∧ w.toInt ≤ (1 : Int32).toInt) ↔ (w = 0 ∨ w = 1) := by
  show ((0 : Int) ≤ w.toInt ∧ w.toInt ≤ 1) ↔ _
  constructor
  · intro h
    rcases (by omega : w.toInt = 0 ∨ w.toInt = 1) with h | h
    · exact Or.inl (Int32.toInt_inj.mp h)
    · exact Or.inr (Int32.toInt_inj.mp h)
  · rintro (rfl | rfl)
    · exact ⟨by decide, by decide⟩
    · exact ⟨by decide, by decide⟩
theorem gre_or (b : Nat → Int32) : ∀ k, greV b k = (-2, -2) ∨ ∃ j, j < k ∧ greV b k = (nI j, b j)
  | 0 => Or.inl rfl
  | k + 1 => by
    rw [greV]
    split
    · exact Or.inr ⟨k, by omega, rfl⟩
    · rcases gre_or b k with h | ⟨j, hj, h⟩
      · exact Or.inl h
      · exact Or.inr ⟨j, by omega, h⟩
theorem wk_or (b : Nat → Int32) : ∀ k, wkV b k = (-2, -2) ∨ ∃ j, j < k ∧ wkV b k = (nI j, b j) ∧ ¬ b j = -1
  | 0 => Or.inl rfl
  | k + 1 => by
    rw [wkV]
    split
    · rename_i h; exact Or.inr ⟨k, by omega, rfl, h.1⟩
    · rcases wk_or b k with h | ⟨j, hj, h⟩
      · exact Or.inl h
      · exact Or.inr ⟨j, by omega, h⟩
theorem br_or (b : Nat → Int32) : ∀ k, brV b k = (-2, -2) ∨ ∃ j, j < k ∧ brV b k = (nI j, b j)
  | 0 => Or.inl rfl
  | k + 1 => by
    rw [brV]
    split
    · exact Or.inr ⟨k, by omega, rfl⟩
    · rcases br_or b k with h | ⟨j, hj, h⟩
      · exact Or.inl h
      · exact Or.inr ⟨j, by omega, h⟩
theorem bdV_r (V : Nat → Nat → Int32) (PB PF : List (List Ins)) (nd e n : Nat) : 0 ≤ (bdV V PB PF nd e n).toInt ∧ (bdV V PB PF nd e n).toInt ≤ 99 := by
  unfold bdV
  split
  · exact ⟨by decide, by decide⟩
  · exact held_r _ (m := 99) (by decide)
theorem trbV_r (V : Nat → Nat → Int32) (PB PF : List (List Ins)) (nd k : Nat) : 0 ≤ (trbV V PB PF nd k).toInt := by
  unfold trbV
  split
  · exact (bdV_r ..).1
  · exact (bdV_r ..).1
theorem m2_lt {x : Int32} (h : 0 ≤ x.toInt) : (-2 : Int32) < x := Int32.lt_iff_toInt_lt.mpr (by show (-2 : Int) < _; omega)
theorem nn_m1 {x : Int32} (h : 0 ≤ x.toInt) : ¬ x = -1 := fun z => by rw [z] at h; exact absurd h (by decide)
section
variable (d : Nat) (fm : Value) (X : Nat × (Nat → Int32)) (s T : Nat → Nat → Int32) (t : Nat → Nat → Int64)
variable {lv nc nd nt : Nat} {PT PG PB PF : List (List Ins)}
theorem t_Mo_greatest (hC : RC s lv T nc nd nt PT PG PB PF) (hQ : QI (vR T nc nd (s 114)) nc nd nt) (w : Int32) : ab_T g_Mo_greatest (d + 3) (0, 0) [.ref 81, .int w] (HA fm X s t) (PR w4 (if w = 0 ∨ w = 1 then selA (greV (fun e => bdV (vR T nc nd (s 114)) PB PF nd e 0) nd) w else -1) fm X s t) := by
  have hlv := hC.1.2.1
  have h6 := hC.1.2.2.2.1.2
  refine ab_T_of (M := m_Mo_greatest) rfl rfl (Nat.le_of_ble_eq_true rfl) ?_
  show ab_Z m_Mo_greatest _ _ _ 0 [_, _, _, _] [] _
  refine ab_go ok_Mo_greatest 3 rfl ?_
  show ab_Z m_Mo_greatest _ _ _ 3 [_, _, _, _] [_, _, _] _
  refine ab_cl ok_Mo_greatest rfl [_, _, _] [] rfl rfl (Nat.le_of_ble_eq_true rfl) (t_Mo_in (d + 2) _ w 0 1) ?_
  rintro _ _ ⟨rfl, rfl⟩
  show ab_Z m_Mo_greatest _ _ _ 4 [_, _, _, _] [_] _
  rw [bI_c (in01 w)]
  refine ab_br ok_Mo_greatest rfl rfl ?_ ?_
  · intro h1
    show ab_Z m_Mo_greatest _ _ _ 5 [_, _, _, _] [] _
    refine ab_go ok_Mo_greatest 1 rfl ?_
    show ab_Z m_Mo_greatest _ _ _ 6 [_, _, _, _] [_] _
    exact ab_rI ok_Mo_greatest rfl (⟨by rw [if_neg (bI_0.mp h1)], s, rfl, Kr.rf w4 s⟩)
  · intro h1
    show ab_Z m_Mo_greatest _ _ _ 7 [_, _, _, _] [] _
    have hw := bI_n0 h1
    rw [if_pos hw]
    refine ab_go ok_Mo_greatest 1 rfl ?_
    show ab_Z m_Mo_greatest _ _ _ 8 [_, _, _, _] [_] _
    refine ab_cl ok_Mo_greatest rfl [_] [] rfl ⟨_, _, rfl, rfl, Or.inl ⟨_, _, rfl, rfl⟩⟩ (Nat.le_of_ble_eq_true rfl) (t_Mo_copies' (d + 2) fm X s T t hC) ?_
    rintro _ _ ⟨rfl, s1, rfl, k1, hC1, hv1, hl1, h40⟩
    show ab_Z m_Mo_greatest _ _ _ 9 [_, _, _, _] [] _
    rw [← hv1] at hQ ⊢
    generalize hVV : vR T nc nd (s1 115) = V at hQ
    obtain ⟨b, hb⟩ : ∃ b : Nat → Int32, b = fun e => bdV V PB PF nd e 0 := ⟨_, rfl⟩
    have hb0 : ∀ e, 0 ≤ (b e).toInt := fun e => by rw [hb]; exact (bdV_r ..).1
    rw [← hb]
    refine ab_go ok_Mo_greatest 4 rfl ?_
    show ab_Z m_Mo_greatest _ _ _ 13 [_, _, _, _] [] _
    have hcl : ∀ s2, Kr w1 s1 s2 → ∀ e, e < nd → ab_T g_Mo_bindsOf (d + 2) (0, 0) [.ref 81, .int (nI e)] (HA fm X s2 t) (fun v h => v = some (.int (b e)) ∧ ∃ s', h = HA fm X s' t ∧ Kr w1 s1 s') := by
      intro s2 hk2 e he
      have hv : vR T nc nd (s2 115) = V := by rw [hk2.row (c := 115) (fun _ => rfl), hVV]
      refine ab_T_mono (t_Mo_bindsOf d fm X s2 T t (hC1.k hk2.m14) (by rw [hv]; exact hQ.1) he) fun v h hp => ?_
      obtain ⟨rfl, s', rfl, hk⟩ := hp
      exact ⟨by rw [hv, hb], s', rfl, hk2.tr hk⟩
    refine lp_dn nd (fun k => ∀ s2, Kr w1 s1 s2 → ab_Z m_Mo_greatest (d + 3) (0, 0) (PR w4 (selA (greV b nd) w) fm X s t) 13 [some (.ref 81), some (.int w), some (.int (greV b k).1), some (.int (nI k))] [] (HA fm X s2 t)) ?_ ?_ s1 (Kr.rf w1 s1)
    · intro s2 hk2
      have hC2 := hC1.k hk2.m14
      refine ab_go ok_Mo_greatest 5 rfl ?_
      show ab_Z m_Mo_greatest _ _ _ 18 [_, _, _, _] [_, _, _] _
      rw [hC2.1.1]
      refine ab_ia ok_Mo_greatest rfl rfl (k := lv) (by first | rfl | (simp only [LL1, LL2, LL3, LL4, LL5, LL6, LL7, LL8, LL10, LL15, LL18, LL20, LL21, LL22, LL23, LL24, LL32, LL39, LL40, LL130, LL420, pk_mul, nI_add]; done) | (simp only [LL1, LL2, LL3, LL4, LL5, LL6, LL7, LL8, LL10, LL15, LL18, LL20, LL21, LL22, LL23, LL24, LL32, LL39, LL40, LL130, LL420, pk_mul, nI_add]; congr 1; omega)) (by omega) (Nat.le_of_ble_eq_true rfl) ?_
      show ab_Z m_Mo_greatest _ _ _ 19 [_, _, _, _] [_, _] _
      rw [hC2.1.2.2.2.1.1]
      refine ab_br ok_Mo_greatest rfl rfl ?_ ?_
      · intro h2
        show ab_Z m_Mo_greatest _ _ _ 33 [_, _, _, _] [] _
        refine ab_go ok_Mo_greatest 1 rfl ?_
        show ab_Z m_Mo_greatest _ _ _ 34 [_, _, _, _] [_] _
        rcases gre_or b nd with hg | ⟨j, hj, hg⟩
        · rw [hg]
          refine ab_go ok_Mo_greatest 1 rfl ?_
          show ab_Z m_Mo_greatest _ _ _ 37 [_, _, _, _] [] _
          refine ab_go ok_Mo_greatest 2 rfl ?_
          show ab_Z m_Mo_greatest _ _ _ 42 [_, _, _, _] [_] _
          exact ab_rI ok_Mo_greatest rfl (⟨som (by unfold selA; split <;> rfl), s2, rfl, k1.m34.tr hk2.m14⟩)
        · rw [hg]
          refine ab_br ok_Mo_greatest rfl rfl ?_ ?_
          · intro h3
            show ab_Z m_Mo_greatest _ _ _ 37 [_, _, _, _] [] _
            exact absurd h3 (nI_l0 (by omega))
          · intro h3
            show ab_Z m_Mo_greatest _ _ _ 35 [_, _, _, _] [] _
            refine ab_go ok_Mo_greatest 1 rfl ?_
            show ab_Z m_Mo_greatest _ _ _ 36 [_, _, _, _] [_] _
            refine ab_br ok_Mo_greatest rfl rfl ?_ ?_
            · intro h4
              show ab_Z m_Mo_greatest _ _ _ 37 [_, _, _, _] [] _
              refine ab_go ok_Mo_greatest 2 rfl ?_
              show ab_Z m_Mo_greatest _ _ _ 42 [_, _, _, _] [_] _
              exact ab_rI ok_Mo_greatest rfl (⟨som (by unfold selA; rw [if_pos h4]), s2, rfl, k1.m34.tr hk2.m14⟩)
            · intro h4
              show ab_Z m_Mo_greatest _ _ _ 39 [_, _, _, _] [] _
              refine ab_go ok_Mo_greatest 2 rfl ?_
              show ab_Z m_Mo_greatest _ _ _ 41 [_, _, _, _] [_, _] _
              refine ab_cl ok_Mo_greatest rfl [_, _] [] rfl ⟨_, _, rfl, rfl, Or.inl ⟨_, _, rfl, rfl⟩⟩ (Nat.le_of_ble_eq_true rfl) (hcl s2 hk2 j hj) ?_
              rintro _ _ ⟨rfl, s3, rfl, hk3⟩
              show ab_Z m_Mo_greatest _ _ _ 42 [_, _, _, _] [_] _
              exact ab_rI ok_Mo_greatest rfl (⟨som (by unfold selA; rw [if_neg h4]), s3, rfl, k1.m34.tr hk3.m14⟩)
      · intro h2
        show ab_Z m_Mo_greatest _ _ _ 20 [_, _, _, _] [] _
        exact absurd (lp_out nd) h2
    · intro k hk ih s2 hk2
      have hC2 := hC1.k hk2.m14
      refine ab_go ok_Mo_greatest 5 rfl ?_
      show ab_Z m_Mo_greatest _ _ _ 18 [_, _, _, _] [_, _, _] _
      rw [hC2.1.1]
      refine ab_ia ok_Mo_greatest rfl rfl (k := lv) (by first | rfl | (simp only [LL1, LL2, LL3, LL4, LL5, LL6, LL7, LL8, LL10, LL15, LL18, LL20, LL21, LL22, LL23, LL24, LL32, LL39, LL40, LL130, LL420, pk_mul, nI_add]; done) | (simp only [LL1, LL2, LL3, LL4, LL5, LL6, LL7, LL8, LL10, LL15, LL18, LL20, LL21, LL22, LL23, LL24, LL32, LL39, LL40, LL130, LL420, pk_mul, nI_add]; congr 1; omega)) (by omega) (Nat.le_of_ble_eq_true rfl) ?_
      show ab_Z m_Mo_greatest _ _ _ 19 [_, _, _, _] [_, _] _
      rw [hC2.1.2.2.2.1.1]
      refine ab_br ok_Mo_greatest rfl rfl ?_ ?_
      · intro h2
        show ab_Z m_Mo_greatest _ _ _ 33 [_, _, _, _] [] _
        exact absurd h2 (lp_in (by omega) hk)
      · intro h2
        show ab_Z m_Mo_greatest _ _ _ 20 [_, _, _, _] [] _
        refine ab_go ok_Mo_greatest 1 rfl ?_
        show ab_Z m_Mo_greatest _ _ _ 21 [_, _, _, _] [_] _
        rw [greV] at ih
        rcases gre_or b k with hg | ⟨j, hj, hg⟩
        · rw [hg] at ih ⊢
          rw [if_pos (m2_lt (hb0 k)), nI_succ] at ih
          refine ab_go ok_Mo_greatest 1 rfl ?_
          show ab_Z m_Mo_greatest _ _ _ 29 [_, _, _, _] [] _
          refine ab_go ok_Mo_greatest 4 rfl ?_
          show ab_Z m_Mo_greatest _ _ _ 13 [_, _, _, _] [] _
          exact ih s2 hk2
        · rw [hg] at ih ⊢
          dsimp only at ih
          refine ab_br ok_Mo_greatest rfl rfl ?_ ?_
          · intro h3
            show ab_Z m_Mo_greatest _ _ _ 29 [_, _, _, _] [] _
            exact absurd h3 (nI_l0 (by omega))
          · intro h3
            show ab_Z m_Mo_greatest _ _ _ 22 [_, _, _, _] [] _
            refine ab_go ok_Mo_greatest 2 rfl ?_
            show ab_Z m_Mo_greatest _ _ _ 24 [_, _, _, _] [_, _] _
            refine ab_cl ok_Mo_greatest rfl [_, _] [] rfl ⟨_, _, rfl, rfl, Or.inl ⟨_, _, rfl, rfl⟩⟩ (Nat.le_of_ble_eq_true rfl) (hcl s2 hk2 k hk) ?_
            rintro _ _ ⟨rfl, s3, rfl, hk3⟩
            show ab_Z m_Mo_greatest _ _ _ 25 [_, _, _, _] [_] _
            refine ab_go ok_Mo_greatest 2 rfl ?_
            show ab_Z m_Mo_greatest _ _ _ 27 [_, _, _, _] [_, _, _] _
            refine ab_cl ok_Mo_greatest rfl [_, _] [_] rfl ⟨_, _, rfl, rfl, Or.inl ⟨_, _, rfl, rfl⟩⟩ (Nat.le_of_ble_eq_true rfl) (hcl s3 hk3 j (by omega)) ?_
            rintro _ _ ⟨rfl, s4, rfl, hk4⟩
            show ab_Z m_Mo_greatest _ _ _ 28 [_, _, _, _] [_, _] _
            refine ab_br ok_Mo_greatest rfl rfl ?_ ?_
            · intro h4
              show ab_Z m_Mo_greatest _ _ _ 31 [_, _, _, _] [] _
              refine ab_go ok_Mo_greatest 2 rfl ?_
              show ab_Z m_Mo_greatest _ _ _ 13 [_, _, _, _] [] _
              rw [if_neg (fun z => by have := i_lt z; have := i_le h4; omega), nI_succ] at ih
              exact ih s4 hk4
            · intro h4
              show ab_Z m_Mo_greatest _ _ _ 29 [_, _, _, _] [] _
              refine ab_go ok_Mo_greatest 4 rfl ?_
              show ab_Z m_Mo_greatest _ _ _ 13 [_, _, _, _] [] _
              rw [if_pos (Int32.lt_iff_toInt_lt.mpr (i_nle h4)), nI_succ] at ih
              exact ih s4 hk4
theorem t_Mo_weakOf (hC : RC s lv T nc nd nt PT PG PB PF) (hI : SI (vR T nc nd (s 115)) nc nd nt) {k : Nat} (hk : k < nt) : ab_T g_Mo_weakOf (d + 3) (0, 0) [.ref 81, .int (nI k)] (HA fm X s t) (PR w1 (trbV (vR T nc nd (s 115)) PB PF nd k) fm X s t) := by
  have hR := hC.1
  have hlv := hR.2.1
  have h6 := hR.2.2.2.1.2
  have ht := hR.2.2.2.2.1.2
  obtain ⟨r1, r2⟩ := hR.2.2.2.2.2.2.2.2.2.1 k hk
  obtain ⟨e1, he1, h1⟩ := hI.2 k hk 0 (by decide)
  obtain ⟨e2, he2, h3⟩ := hI.2 k hk 1 (by decide)
  have h1' : T 21 (2 * k) = nI e1 := h1
  have h3' : T 21 (2 * k + 1) = nI e2 := h3
  unfold trbV
  rw [vR_o (show (21 : Nat) ≠ 11 by decide), h1', h3', nI_c (by omega), nI_c (by omega)]
  generalize hVV : vR T nc nd (s 115) = V at hI ⊢
  refine ab_T_of (M := m_Mo_weakOf) rfl rfl (Nat.le_of_ble_eq_true rfl) ?_
  show ab_Z m_Mo_weakOf _ _ _ 0 [_, _, _, _] [] _
  refine ab_go ok_Mo_weakOf 9 rfl ?_
  show ab_Z m_Mo_weakOf _ _ _ 9 [_, _, _, _] [_, _, _] _
  rw [hR.1]
  refine ab_ia ok_Mo_weakOf rfl rfl (k := (6 * lv + k)) (by first | rfl | (simp only [LL1, LL2, LL3, LL4, LL5, LL6, LL7, LL8, LL10, LL15, LL18, LL20, LL21, LL22, LL23, LL24, LL32, LL39, LL40, LL130, LL420, pk_mul, nI_add]; done) | (simp only [LL1, LL2, LL3, LL4, LL5, LL6, LL7, LL8, LL10, LL15, LL18, LL20, LL21, LL22, LL23, LL24, LL32, LL39, LL40, LL130, LL420, pk_mul, nI_add]; congr 1; omega)) (by omega) (Nat.le_of_ble_eq_true rfl) ?_
  show ab_Z m_Mo_weakOf _ _ _ 10 [_, _, _, _] [_, _] _
  rw [r1, h1']
  refine ab_cl ok_Mo_weakOf rfl [_, _] [] rfl ⟨_, _, rfl, rfl, Or.inl ⟨_, _, rfl, rfl⟩⟩ (Nat.le_of_ble_eq_true rfl) (t_Mo_bindsOf d fm X s T t hC (by rw [hVV]; exact hI) he1) ?_
  rintro _ _ ⟨rfl, s2, rfl, k2⟩
  show ab_Z m_Mo_weakOf _ _ _ 11 [_, _, _, _] [_] _
  rw [hVV]
  have hC2 := hC.k k2.m14
  have hv : vR T nc nd (s2 115) = V := by rw [k2.row (c := 115) (fun _ => rfl), hVV]
  refine ab_go ok_Mo_weakOf 10 rfl ?_
  show ab_Z m_Mo_weakOf _ _ _ 21 [_, _, _, _] [_, _, _] _
  rw [hC2.1.1]
  refine ab_ia ok_Mo_weakOf rfl rfl (k := (6 * lv + k)) (by first | rfl | (simp only [LL1, LL2, LL3, LL4, LL5, LL6, LL7, LL8, LL10, LL15, LL18, LL20, LL21, LL22, LL23, LL24, LL32, LL39, LL40, LL130, LL420, pk_mul, nI_add]; done) | (simp only [LL1, LL2, LL3, LL4, LL5, LL6, LL7, LL8, LL10, LL15, LL18, LL20, LL21, LL22, LL23, LL24, LL32, LL39, LL40, LL130, LL420, pk_mul, nI_add]; congr 1; omega)) (by omega) (Nat.le_of_ble_eq_true rfl) ?_
  show ab_Z m_Mo_weakOf _ _ _ 22 [_, _, _, _] [_, _] _
  rw [k2 99 _ rfl, r2, h3']
  refine ab_cl ok_Mo_weakOf rfl [_, _] [] rfl ⟨_, _, rfl, rfl, Or.inl ⟨_, _, rfl, rfl⟩⟩ (Nat.le_of_ble_eq_true rfl) (t_Mo_bindsOf d fm X s2 T t hC2 (by rw [hv]; exact hI) he2) ?_
  rintro _ _ ⟨rfl, s3, rfl, k3⟩
  show ab_Z m_Mo_weakOf _ _ _ 23 [_, _, _, _] [_] _
  rw [hv]
  refine ab_go ok_Mo_weakOf 3 rfl ?_
  show ab_Z m_Mo_weakOf _ _ _ 26 [_, _, _, _] [_, _] _
  refine ab_br ok_Mo_weakOf rfl rfl ?_ ?_
  · intro h4
    show ab_Z m_Mo_weakOf _ _ _ 29 [_, _, _, _] [] _
    refine ab_go ok_Mo_weakOf 1 rfl ?_
    show ab_Z m_Mo_weakOf _ _ _ 30 [_, _, _, _] [_] _
    have hmin : bdV V PB PF nd e2 0 = if bdV V PB PF nd e2 0 < bdV V PB PF nd e1 0 then bdV V PB PF nd e2 0 else bdV V PB PF nd e1 0 := by
      by_cases hx : bdV V PB PF nd e2 0 < bdV V PB PF nd e1 0
      · rw [if_pos hx]
      · rw [if_neg hx]; have := i_le h4; have := i_nlt hx; exact Int32.toInt_inj.mp (by omega)
    exact ab_rI ok_Mo_weakOf rfl (⟨som hmin, s3, rfl, k2.tr k3⟩)
  · intro h4
    show ab_Z m_Mo_weakOf _ _ _ 27 [_, _, _, _] [] _
    refine ab_go ok_Mo_weakOf 2 rfl ?_
    show ab_Z m_Mo_weakOf _ _ _ 30 [_, _, _, _] [_] _
    exact ab_rI ok_Mo_weakOf rfl (⟨som (by rw [if_neg (fun z => by have := i_lt z; have := i_nle h4; omega)]), s3, rfl, k2.tr k3⟩)
theorem t_Mo_weakest (hC : RC s lv T nc nd nt PT PG PB PF) (hQ : QI (vR T nc nd (s 114)) nc nd nt) (w : Int32) : ab_T g_Mo_weakest (d + 4) (0, 0) [.ref 81, .int w] (HA fm X s t) (PR w4 (if w = 0 ∨ w = 1 then selA (wkV (wktV (vR T nc nd (s 114)) PB PF nd) nt) w else -1) fm X s t) := by
  have hlv := hC.1.2.1
  have ht := hC.1.2.2.2.2.1.2
  refine ab_T_of (M := m_Mo_weakest) rfl rfl (Nat.le_of_ble_eq_true rfl) ?_
  show ab_Z m_Mo_weakest _ _ _ 0 [_, _, _, _] [] _
  refine ab_go ok_Mo_weakest 3 rfl ?_
  show ab_Z m_Mo_weakest _ _ _ 3 [_, _, _, _] [_, _, _] _
  refine ab_cl ok_Mo_weakest rfl [_, _, _] [] rfl rfl (Nat.le_of_ble_eq_true rfl) (t_Mo_in (d + 3) _ w 0 1) ?_
  rintro _ _ ⟨rfl, rfl⟩
  show ab_Z m_Mo_weakest _ _ _ 4 [_, _, _, _] [_] _
  rw [bI_c (in01 w)]
  refine ab_br ok_Mo_weakest rfl rfl ?_ ?_
  · intro h1
    show ab_Z m_Mo_weakest _ _ _ 5 [_, _, _, _] [] _
    refine ab_go ok_Mo_weakest 1 rfl ?_
    show ab_Z m_Mo_weakest _ _ _ 6 [_, _, _, _] [_] _
    exact ab_rI ok_Mo_weakest rfl (⟨by rw [if_neg (bI_0.mp h1)], s, rfl, Kr.rf w4 s⟩)
  · intro h1
    show ab_Z m_Mo_weakest _ _ _ 7 [_, _, _, _] [] _
    have hw := bI_n0 h1
    rw [if_pos hw]
    refine ab_go ok_Mo_weakest 1 rfl ?_
    show ab_Z m_Mo_weakest _ _ _ 8 [_, _, _, _] [_] _
    refine ab_cl ok_Mo_weakest rfl [_] [] rfl ⟨_, _, rfl, rfl, Or.inl ⟨_, _, rfl, rfl⟩⟩ (Nat.le_of_ble_eq_true rfl) (t_Mo_copies' (d + 3) fm X s T t hC) ?_
    rintro _ _ ⟨rfl, s1, rfl, k1, hC1, hv1, hl1, h40⟩
    show ab_Z m_Mo_weakest _ _ _ 9 [_, _, _, _] [] _
    rw [← hv1] at hQ ⊢
    generalize hVV : vR T nc nd (s1 115) = V at hQ
    obtain ⟨b, hb⟩ : ∃ b : Nat → Int32, b = wktV V PB PF nd := ⟨_, rfl⟩
    have hbt : ∀ k, heldB V k = true → b k = trbV V PB PF nd k := fun k h => by rw [hb, wktV, h]; rfl
    have hbf : ∀ k, heldB V k = false → b k = -1 := fun k h => by rw [hb, wktV, h]; rfl
    rw [← hb]
    refine ab_go ok_Mo_weakest 4 rfl ?_
    show ab_Z m_Mo_weakest _ _ _ 13 [_, _, _, _] [] _
    have hvv : ∀ s2, Kr w1 s1 s2 → vR T nc nd (s2 115) = V := fun s2 hk2 => by rw [hk2.row (c := 115) (fun _ => rfl), hVV]
    have hcl : ∀ s2, Kr w1 s1 s2 → ∀ k, k < nt → ab_T g_Mo_weakOf (d + 3) (0, 0) [.ref 81, .int (nI k)] (HA fm X s2 t) (fun v h => v = some (.int (trbV V PB PF nd k)) ∧ ∃ s', h = HA fm X s' t ∧ Kr w1 s1 s') := by
      intro s2 hk2 k hk
      have hv := hvv s2 hk2
      refine ab_T_mono (t_Mo_weakOf d fm X s2 T t (hC1.k hk2.m14) (by rw [hv]; exact hQ.1) hk) fun v h hp => ?_
      obtain ⟨rfl, s', rfl, hk'⟩ := hp
      exact ⟨by rw [hv], s', rfl, hk2.tr hk'⟩
    refine lp_dn nt (fun k => ∀ s2, Kr w1 s1 s2 → ab_Z m_Mo_weakest (d + 4) (0, 0) (PR w4 (selA (wkV b nt) w) fm X s t) 13 [some (.ref 81), some (.int w), some (.int (wkV b k).1), some (.int (nI k))] [] (HA fm X s2 t)) ?_ ?_ s1 (Kr.rf w1 s1)
    · intro s2 hk2
      have hC2 := hC1.k hk2.m14
      refine ab_go ok_Mo_weakest 5 rfl ?_
      show ab_Z m_Mo_weakest _ _ _ 18 [_, _, _, _] [_, _, _] _
      rw [hC2.1.1]
      refine ab_ia ok_Mo_weakest rfl rfl (k := lv) (by first | rfl | (simp only [LL1, LL2, LL3, LL4, LL5, LL6, LL7, LL8, LL10, LL15, LL18, LL20, LL21, LL22, LL23, LL24, LL32, LL39, LL40, LL130, LL420, pk_mul, nI_add]; done) | (simp only [LL1, LL2, LL3, LL4, LL5, LL6, LL7, LL8, LL10, LL15, LL18, LL20, LL21, LL22, LL23, LL24, LL32, LL39, LL40, LL130, LL420, pk_mul, nI_add]; congr 1; omega)) (by omega) (Nat.le_of_ble_eq_true rfl) ?_
      show ab_Z m_Mo_weakest _ _ _ 19 [_, _, _, _] [_, _] _
      rw [hC2.1.2.2.2.2.1.1]
      refine ab_br ok_Mo_weakest rfl rfl ?_ ?_
      · intro h2
        show ab_Z m_Mo_weakest _ _ _ 37 [_, _, _, _] [] _
        refine ab_go ok_Mo_weakest 1 rfl ?_
        show ab_Z m_Mo_weakest _ _ _ 38 [_, _, _, _] [_] _
        rcases wk_or b nt with hg | ⟨j, hj, hg, hn⟩
        · rw [hg]
          refine ab_go ok_Mo_weakest 1 rfl ?_
          show ab_Z m_Mo_weakest _ _ _ 41 [_, _, _, _] [] _
          refine ab_go ok_Mo_weakest 2 rfl ?_
          show ab_Z m_Mo_weakest _ _ _ 46 [_, _, _, _] [_] _
          exact ab_rI ok_Mo_weakest rfl (⟨som (by unfold selA; split <;> rfl), s2, rfl, k1.m34.tr hk2.m14⟩)
        · rw [hg]
          have hh : heldB V j = true := by
            cases hx : heldB V j
            · exact absurd (hbf j hx) hn
            · rfl
          refine ab_br ok_Mo_weakest rfl rfl ?_ ?_
          · intro h3
            show ab_Z m_Mo_weakest _ _ _ 41 [_, _, _, _] [] _
            exact absurd h3 (nI_l0 (by omega))
          · intro h3
            show ab_Z m_Mo_weakest _ _ _ 39 [_, _, _, _] [] _
            refine ab_go ok_Mo_weakest 1 rfl ?_
            show ab_Z m_Mo_weakest _ _ _ 40 [_, _, _, _] [_] _
            refine ab_br ok_Mo_weakest rfl rfl ?_ ?_
            · intro h4
              show ab_Z m_Mo_weakest _ _ _ 41 [_, _, _, _] [] _
              refine ab_go ok_Mo_weakest 2 rfl ?_
              show ab_Z m_Mo_weakest _ _ _ 46 [_, _, _, _] [_] _
              exact ab_rI ok_Mo_weakest rfl (⟨som (by unfold selA; rw [if_pos h4]), s2, rfl, k1.m34.tr hk2.m14⟩)
            · intro h4
              show ab_Z m_Mo_weakest _ _ _ 43 [_, _, _, _] [] _
              refine ab_go ok_Mo_weakest 2 rfl ?_
              show ab_Z m_Mo_weakest _ _ _ 45 [_, _, _, _] [_, _] _
              refine ab_cl ok_Mo_weakest rfl [_, _] [] rfl ⟨_, _, rfl, rfl, Or.inl ⟨_, _, rfl, rfl⟩⟩ (Nat.le_of_ble_eq_true rfl) (hcl s2 hk2 j hj) ?_
              rintro _ _ ⟨rfl, s3, rfl, hk3⟩
              show ab_Z m_Mo_weakest _ _ _ 46 [_, _, _, _] [_] _
              exact ab_rI ok_Mo_weakest rfl (⟨som (by unfold selA; rw [if_neg h4, hbt j hh]), s3, rfl, k1.m34.tr hk3.m14⟩)
      · intro h2
        show ab_Z m_Mo_weakest _ _ _ 20 [_, _, _, _] [] _
        exact absurd (lp_out nt) h2
    · intro k hk ih s2 hk2
      have hC2 := hC1.k hk2.m14
      refine ab_go ok_Mo_weakest 5 rfl ?_
      show ab_Z m_Mo_weakest _ _ _ 18 [_, _, _, _] [_, _, _] _
      rw [hC2.1.1]
      refine ab_ia ok_Mo_weakest rfl rfl (k := lv) (by first | rfl | (simp only [LL1, LL2, LL3, LL4, LL5, LL6, LL7, LL8, LL10, LL15, LL18, LL20, LL21, LL22, LL23, LL24, LL32, LL39, LL40, LL130, LL420, pk_mul, nI_add]; done) | (simp only [LL1, LL2, LL3, LL4, LL5, LL6, LL7, LL8, LL10, LL15, LL18, LL20, LL21, LL22, LL23, LL24, LL32, LL39, LL40, LL130, LL420, pk_mul, nI_add]; congr 1; omega)) (by omega) (Nat.le_of_ble_eq_true rfl) ?_
      show ab_Z m_Mo_weakest _ _ _ 19 [_, _, _, _] [_, _] _
      rw [hC2.1.2.2.2.2.1.1]
      refine ab_br ok_Mo_weakest rfl rfl ?_ ?_
      · intro h2
        show ab_Z m_Mo_weakest _ _ _ 37 [_, _, _, _] [] _
        exact absurd h2 (lp_in (by omega) hk)
      · intro h2
        show ab_Z m_Mo_weakest _ _ _ 20 [_, _, _, _] [] _
        refine ab_go ok_Mo_weakest 2 rfl ?_
        show ab_Z m_Mo_weakest _ _ _ 22 [_, _, _, _] [_, _] _
        refine ab_cl ok_Mo_weakest rfl [_, _] [] rfl ⟨_, _, rfl, rfl, Or.inl ⟨_, _, rfl, rfl⟩⟩ (Nat.le_of_ble_eq_true rfl) (t_Mo_doesHold (d + 3) fm X s2 T t hC2 (by rw [hvv s2 hk2]; exact hQ.1) hk) ?_
        rintro _ _ ⟨rfl, rfl⟩
        show ab_Z m_Mo_weakest _ _ _ 23 [_, _, _, _] [_] _
        rw [hvv s2 hk2]
        rw [wkV] at ih
        refine ab_br ok_Mo_weakest rfl rfl ?_ ?_
        · intro h3
          show ab_Z m_Mo_weakest _ _ _ 35 [_, _, _, _] [] _
          refine ab_go ok_Mo_weakest 2 rfl ?_
          show ab_Z m_Mo_weakest _ _ _ 13 [_, _, _, _] [] _
          rw [if_neg (fun z => z.1 (hbf k (bB_0.mp h3))), nI_succ] at ih
          exact ih s2 hk2
        · intro h3
          show ab_Z m_Mo_weakest _ _ _ 24 [_, _, _, _] [] _
          have hh := bB_n0 h3
          have hn1 : ¬ b k = -1 := by rw [hbt k hh]; exact nn_m1 (trbV_r ..)
          refine ab_go ok_Mo_weakest 1 rfl ?_
          show ab_Z m_Mo_weakest _ _ _ 25 [_, _, _, _] [_] _
          rcases wk_or b k with hg | ⟨j, hj, hg, hn⟩
          · rw [hg] at ih ⊢
            rw [if_pos ⟨hn1, Or.inl rfl⟩, nI_succ] at ih
            refine ab_go ok_Mo_weakest 1 rfl ?_
            show ab_Z m_Mo_weakest _ _ _ 33 [_, _, _, _] [] _
            refine ab_go ok_Mo_weakest 4 rfl ?_
            show ab_Z m_Mo_weakest _ _ _ 13 [_, _, _, _] [] _
            exact ih s2 hk2
          · rw [hg] at ih ⊢
            have hhj : heldB V j = true := by
              cases hx : heldB V j
              · exact absurd (hbf j hx) hn
              · rfl
            dsimp only at ih
            rw [hbt k hh, hbt j hhj] at ih
            refine ab_br ok_Mo_weakest rfl rfl ?_ ?_
            · intro h4
              show ab_Z m_Mo_weakest _ _ _ 33 [_, _, _, _] [] _
              exact absurd h4 (nI_l0 (by omega))
            · intro h4
              show ab_Z m_Mo_weakest _ _ _ 26 [_, _, _, _] [] _
              refine ab_go ok_Mo_weakest 2 rfl ?_
              show ab_Z m_Mo_weakest _ _ _ 28 [_, _, _, _] [_, _] _
              refine ab_cl ok_Mo_weakest rfl [_, _] [] rfl ⟨_, _, rfl, rfl, Or.inl ⟨_, _, rfl, rfl⟩⟩ (Nat.le_of_ble_eq_true rfl) (hcl s2 hk2 k hk) ?_
              rintro _ _ ⟨rfl, s3, rfl, hk3⟩
              show ab_Z m_Mo_weakest _ _ _ 29 [_, _, _, _] [_] _
              refine ab_go ok_Mo_weakest 2 rfl ?_
              show ab_Z m_Mo_weakest _ _ _ 31 [_, _, _, _] [_, _, _] _
              refine ab_cl ok_Mo_weakest rfl [_, _] [_] rfl ⟨_, _, rfl, rfl, Or.inl ⟨_, _, rfl, rfl⟩⟩ (Nat.le_of_ble_eq_true rfl) (hcl s3 hk3 j (by omega)) ?_
              rintro _ _ ⟨rfl, s4, rfl, hk4⟩
              show ab_Z m_Mo_weakest _ _ _ 32 [_, _, _, _] [_, _] _
              refine ab_br ok_Mo_weakest rfl rfl ?_ ?_
              · intro h5
                show ab_Z m_Mo_weakest _ _ _ 35 [_, _, _, _] [] _
                refine ab_go ok_Mo_weakest 2 rfl ?_
                show ab_Z m_Mo_weakest _ _ _ 13 [_, _, _, _] [] _
                rw [if_neg (fun z => z.2.elim (fun z => absurd z (nI_ne2 (by omega))) (fun z => by have := i_lt z; have := i_le h5; omega)), nI_succ] at ih
                exact ih s4 hk4
              · intro h5
                show ab_Z m_Mo_weakest _ _ _ 33 [_, _, _, _] [] _
                refine ab_go ok_Mo_weakest 4 rfl ?_
                show ab_Z m_Mo_weakest _ _ _ 13 [_, _, _, _] [] _
                rw [if_pos ⟨nn_m1 (trbV_r ..), Or.inr (Int32.lt_iff_toInt_lt.mpr (i_nle h5))⟩, nI_succ] at ih
                exact ih s4 hk4
theorem t_Mo_levelSum (hR : RT s lv T nc nd nt) {c : Nat} (hc : c < nc) : ab_T g_Mo_levelSum d (0, 0) [.ref 81, .int (nI c)] (HA fm X s t) (PI (sumV (fun f => vR T nc nd (s 114) 11 (3 * c + f)) 3) (HA fm X s t)) := by
  have h5 := hR.2.2.1.2
  rw [show sumV (fun f => vR T nc nd (s 114) 11 (3 * c + f)) 3 = s 114 (3 * c) + s 114 (3 * c + 1) + s 114 (3 * c + 2) from by
    rw [sumV_cg (g := fun f => s 114 (3 * c + f)) (fun f hf => vR_l hc hf)]
    simp only [sumV]
    rw [Int32.zero_add]
    rfl]
  refine ab_T_of (M := m_Mo_levelSum) rfl rfl (Nat.le_of_ble_eq_true rfl) ?_
  show ab_Z m_Mo_levelSum _ _ _ 0 [_, _] [] _
  refine ab_go ok_Mo_levelSum 5 rfl ?_
  show ab_Z m_Mo_levelSum _ _ _ 5 [_, _] [_, _] _
  refine ab_ia ok_Mo_levelSum rfl rfl (k := (3 * c)) (by first | rfl | (simp only [LL1, LL2, LL3, LL4, LL5, LL6, LL7, LL8, LL10, LL15, LL18, LL20, LL21, LL22, LL23, LL24, LL32, LL39, LL40, LL130, LL420, pk_mul, nI_add]; done) | (simp only [LL1, LL2, LL3, LL4, LL5, LL6, LL7, LL8, LL10, LL15, LL18, LL20, LL21, LL22, LL23, LL24, LL32, LL39, LL40, LL130, LL420, pk_mul, nI_add]; congr 1; omega)) (by omega) (Nat.le_of_ble_eq_true rfl) ?_
  show ab_Z m_Mo_levelSum _ _ _ 6 [_, _] [_] _
  refine ab_go ok_Mo_levelSum 7 rfl ?_
  show ab_Z m_Mo_levelSum _ _ _ 13 [_, _] [_, _, _] _
  refine ab_ia ok_Mo_levelSum rfl rfl (k := (3 * c + 1)) (by first | rfl | (simp only [LL1, LL2, LL3, LL4, LL5, LL6, LL7, LL8, LL10, LL15, LL18, LL20, LL21, LL22, LL23, LL24, LL32, LL39, LL40, LL130, LL420, pk_mul, nI_add]; done) | (simp only [LL1, LL2, LL3, LL4, LL5, LL6, LL7, LL8, LL10, LL15, LL18, LL20, LL21, LL22, LL23, LL24, LL32, LL39, LL40, LL130, LL420, pk_mul, nI_add]; congr 1; omega)) (by omega) (Nat.le_of_ble_eq_true rfl) ?_
  show ab_Z m_Mo_levelSum _ _ _ 14 [_, _] [_, _] _
  refine ab_go ok_Mo_levelSum 8 rfl ?_
  show ab_Z m_Mo_levelSum _ _ _ 22 [_, _] [_, _, _] _
  refine ab_ia ok_Mo_levelSum rfl rfl (k := (3 * c + 2)) (by first | rfl | (simp only [LL1, LL2, LL3, LL4, LL5, LL6, LL7, LL8, LL10, LL15, LL18, LL20, LL21, LL22, LL23, LL24, LL32, LL39, LL40, LL130, LL420, pk_mul, nI_add]; done) | (simp only [LL1, LL2, LL3, LL4, LL5, LL6, LL7, LL8, LL10, LL15, LL18, LL20, LL21, LL22, LL23, LL24, LL32, LL39, LL40, LL130, LL420, pk_mul, nI_add]; congr 1; omega)) (by omega) (Nat.le_of_ble_eq_true rfl) ?_
  show ab_Z m_Mo_levelSum _ _ _ 23 [_, _] [_, _] _
  refine ab_go ok_Mo_levelSum 1 rfl ?_
  show ab_Z m_Mo_levelSum _ _ _ 24 [_, _] [_] _
  exact ab_rI ok_Mo_levelSum rfl (⟨rfl, rfl⟩)
theorem t_Mo_barest (hC : RC s lv T nc nd nt PT PG PB PF) (w : Int32) : ab_T g_Mo_barest (d + 1) (0, 0) [.ref 81, .int w] (HA fm X s t) (PR w4 (if w = 0 ∨ w = 1 then selA (brV (fun c => sumV (fun f => vR T nc nd (s 114) 11 (3 * c + f)) 3) nc) w else -1) fm X s t) := by
  have hlv := hC.1.2.1
  have h5 := hC.1.2.2.1.2
  refine ab_T_of (M := m_Mo_barest) rfl rfl (Nat.le_of_ble_eq_true rfl) ?_
  show ab_Z m_Mo_barest _ _ _ 0 [_, _, _, _] [] _
  refine ab_go ok_Mo_barest 3 rfl ?_
  show ab_Z m_Mo_barest _ _ _ 3 [_, _, _, _] [_, _, _] _
  refine ab_cl ok_Mo_barest rfl [_, _, _] [] rfl rfl (Nat.le_of_ble_eq_true rfl) (t_Mo_in d _ w 0 1) ?_
  rintro _ _ ⟨rfl, rfl⟩
  show ab_Z m_Mo_barest _ _ _ 4 [_, _, _, _] [_] _
  rw [bI_c (in01 w)]
  refine ab_br ok_Mo_barest rfl rfl ?_ ?_
  · intro h1
    show ab_Z m_Mo_barest _ _ _ 5 [_, _, _, _] [] _
    refine ab_go ok_Mo_barest 1 rfl ?_
    show ab_Z m_Mo_barest _ _ _ 6 [_, _, _, _] [_] _
    exact ab_rI ok_Mo_barest rfl (⟨by rw [if_neg (bI_0.mp h1)], s, rfl, Kr.rf w4 s⟩)
  · intro h1
    show ab_Z m_Mo_barest _ _ _ 7 [_, _, _, _] [] _
    have hw := bI_n0 h1
    rw [if_pos hw]
    obtain ⟨b, hb⟩ : ∃ b : Nat → Int32, b = fun c => sumV (fun f => vR T nc nd (s 114) 11 (3 * c + f)) 3 := ⟨_, rfl⟩
    have hcl : ∀ e, e < nc → ab_T g_Mo_levelSum d (0, 0) [.ref 81, .int (nI e)] (HA fm X s t) (PI (b e) (HA fm X s t)) := fun e he => by rw [hb]; exact t_Mo_levelSum d fm X s T t hC.1 he
    rw [← hb]
    refine ab_go ok_Mo_barest 4 rfl ?_
    show ab_Z m_Mo_barest _ _ _ 11 [_, _, _, _] [] _
    refine lp_dn nc (fun k => ab_Z m_Mo_barest (d + 1) (0, 0) (PR w4 (selA (brV b nc) w) fm X s t) 11 [some (.ref 81), some (.int w), some (.int (brV b k).1), some (.int (nI k))] [] (HA fm X s t)) ?_ ?_
    · refine ab_go ok_Mo_barest 5 rfl ?_
      show ab_Z m_Mo_barest _ _ _ 16 [_, _, _, _] [_, _, _] _
      rw [hC.1.1]
      refine ab_ia ok_Mo_barest rfl rfl (k := lv) (by first | rfl | (simp only [LL1, LL2, LL3, LL4, LL5, LL6, LL7, LL8, LL10, LL15, LL18, LL20, LL21, LL22, LL23, LL24, LL32, LL39, LL40, LL130, LL420, pk_mul, nI_add]; done) | (simp only [LL1, LL2, LL3, LL4, LL5, LL6, LL7, LL8, LL10, LL15, LL18, LL20, LL21, LL22, LL23, LL24, LL32, LL39, LL40, LL130, LL420, pk_mul, nI_add]; congr 1; omega)) (by omega) (Nat.le_of_ble_eq_true rfl) ?_
      show ab_Z m_Mo_barest _ _ _ 17 [_, _, _, _] [_, _] _
      rw [hC.1.2.2.1.1]
      refine ab_br ok_Mo_barest rfl rfl ?_ ?_
      · intro h2
        show ab_Z m_Mo_barest _ _ _ 31 [_, _, _, _] [] _
        refine ab_go ok_Mo_barest 1 rfl ?_
        show ab_Z m_Mo_barest _ _ _ 32 [_, _, _, _] [_] _
        rcases br_or b nc with hg | ⟨j, hj, hg⟩
        · rw [hg]
          refine ab_go ok_Mo_barest 1 rfl ?_
          show ab_Z m_Mo_barest _ _ _ 35 [_, _, _, _] [] _
          refine ab_go ok_Mo_barest 2 rfl ?_
          show ab_Z m_Mo_barest _ _ _ 40 [_, _, _, _] [_] _
          exact ab_rI ok_Mo_barest rfl (⟨som (by unfold selA; split <;> rfl), s, rfl, Kr.rf w4 s⟩)
        · rw [hg]
          refine ab_br ok_Mo_barest rfl rfl ?_ ?_
          · intro h3
            show ab_Z m_Mo_barest _ _ _ 35 [_, _, _, _] [] _
            exact absurd h3 (nI_l0 (by omega))
          · intro h3
            show ab_Z m_Mo_barest _ _ _ 33 [_, _, _, _] [] _
            refine ab_go ok_Mo_barest 1 rfl ?_
            show ab_Z m_Mo_barest _ _ _ 34 [_, _, _, _] [_] _
            refine ab_br ok_Mo_barest rfl rfl ?_ ?_
            · intro h4
              show ab_Z m_Mo_barest _ _ _ 35 [_, _, _, _] [] _
              refine ab_go ok_Mo_barest 2 rfl ?_
              show ab_Z m_Mo_barest _ _ _ 40 [_, _, _, _] [_] _
              exact ab_rI ok_Mo_barest rfl (⟨som (by unfold selA; rw [if_pos h4]), s, rfl, Kr.rf w4 s⟩)
            · intro h4
              show ab_Z m_Mo_barest _ _ _ 37 [_, _, _, _] [] _
              refine ab_go ok_Mo_barest 2 rfl ?_
              show ab_Z m_Mo_barest _ _ _ 39 [_, _, _, _] [_, _] _
              refine ab_cl ok_Mo_barest rfl [_, _] [] rfl ⟨_, _, rfl, rfl, Or.inl ⟨_, _, rfl, rfl⟩⟩ (Nat.le_of_ble_eq_true rfl) (hcl j hj) ?_
              rintro _ _ ⟨rfl, rfl⟩
              show ab_Z m_Mo_barest _ _ _ 40 [_, _, _, _] [_] _
              exact ab_rI ok_Mo_barest rfl (⟨som (by unfold selA; rw [if_neg h4]), s, rfl, Kr.rf w4 s⟩)
      · intro h2
        show ab_Z m_Mo_barest _ _ _ 18 [_, _, _, _] [] _
        exact absurd (lp_out nc) h2
    · intro k hk ih
      refine ab_go ok_Mo_barest 5 rfl ?_
      show ab_Z m_Mo_barest _ _ _ 16 [_, _, _, _] [_, _, _] _
      rw [hC.1.1]
      refine ab_ia ok_Mo_barest rfl rfl (k := lv) (by first | rfl | (simp only [LL1, LL2, LL3, LL4, LL5, LL6, LL7, LL8, LL10, LL15, LL18, LL20, LL21, LL22, LL23, LL24, LL32, LL39, LL40, LL130, LL420, pk_mul, nI_add]; done) | (simp only [LL1, LL2, LL3, LL4, LL5, LL6, LL7, LL8, LL10, LL15, LL18, LL20, LL21, LL22, LL23, LL24, LL32, LL39, LL40, LL130, LL420, pk_mul, nI_add]; congr 1; omega)) (by omega) (Nat.le_of_ble_eq_true rfl) ?_
      show ab_Z m_Mo_barest _ _ _ 17 [_, _, _, _] [_, _] _
      rw [hC.1.2.2.1.1]
      refine ab_br ok_Mo_barest rfl rfl ?_ ?_
      · intro h2
        show ab_Z m_Mo_barest _ _ _ 31 [_, _, _, _] [] _
        exact absurd h2 (lp_in (by omega) hk)
      · intro h2
        show ab_Z m_Mo_barest _ _ _ 18 [_, _, _, _] [] _
        refine ab_go ok_Mo_barest 1 rfl ?_
        show ab_Z m_Mo_barest _ _ _ 19 [_, _, _, _] [_] _
        rw [brV] at ih
        rcases br_or b k with hg | ⟨j, hj, hg⟩
        · rw [hg] at ih ⊢
          rw [if_pos (Or.inl rfl), nI_succ] at ih
          refine ab_go ok_Mo_barest 1 rfl ?_
          show ab_Z m_Mo_barest _ _ _ 27 [_, _, _, _] [] _
          refine ab_go ok_Mo_barest 4 rfl ?_
          show ab_Z m_Mo_barest _ _ _ 11 [_, _, _, _] [] _
          exact ih
        · rw [hg] at ih ⊢
          dsimp only at ih
          refine ab_br ok_Mo_barest rfl rfl ?_ ?_
          · intro h3
            show ab_Z m_Mo_barest _ _ _ 27 [_, _, _, _] [] _
            exact absurd h3 (nI_l0 (by omega))
          · intro h3
            show ab_Z m_Mo_barest _ _ _ 20 [_, _, _, _] [] _
            refine ab_go ok_Mo_barest 2 rfl ?_
            show ab_Z m_Mo_barest _ _ _ 22 [_, _, _, _] [_, _] _
            refine ab_cl ok_Mo_barest rfl [_, _] [] rfl ⟨_, _, rfl, rfl, Or.inl ⟨_, _, rfl, rfl⟩⟩ (Nat.le_of_ble_eq_true rfl) (hcl k hk) ?_
            rintro _ _ ⟨rfl, rfl⟩
            show ab_Z m_Mo_barest _ _ _ 23 [_, _, _, _] [_] _
            refine ab_go ok_Mo_barest 2 rfl ?_
            show ab_Z m_Mo_barest _ _ _ 25 [_, _, _, _] [_, _, _] _
            refine ab_cl ok_Mo_barest rfl [_, _] [_] rfl ⟨_, _, rfl, rfl, Or.inl ⟨_, _, rfl, rfl⟩⟩ (Nat.le_of_ble_eq_true rfl) (hcl j (by omega)) ?_
            rintro _ _ ⟨rfl, rfl⟩
            show ab_Z m_Mo_barest _ _ _ 26 [_, _, _, _] [_, _] _
            refine ab_br ok_Mo_barest rfl rfl ?_ ?_
            · intro h4
              show ab_Z m_Mo_barest _ _ _ 29 [_, _, _, _] [] _
              refine ab_go ok_Mo_barest 2 rfl ?_
              show ab_Z m_Mo_barest _ _ _ 11 [_, _, _, _] [] _
              rw [if_neg (fun z => z.elim (fun z => absurd z (nI_ne2 (by omega))) (fun z => by have := i_lt z; have := i_le h4; omega)), nI_succ] at ih
              exact ih
            · intro h4
              show ab_Z m_Mo_barest _ _ _ 27 [_, _, _, _] [] _
              refine ab_go ok_Mo_barest 4 rfl ?_
              show ab_Z m_Mo_barest _ _ _ 11 [_, _, _, _] [] _
              rw [if_pos (Or.inr (Int32.lt_iff_toInt_lt.mpr (i_nle h4))), nI_succ] at ih
              exact ih
end

