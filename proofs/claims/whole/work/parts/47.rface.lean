/-! the reference's face: clerks, deeds, treaties -/
theorem som {a b : Int32} (h : a = b) : some (Value.int a) = some (Value.int b) := by rw [h]
/-- who sealed, what was taken: in range -/
abbrev QI (V : Nat → Nat → Int32) (nc nd nt : Nat) : Prop := SI V nc nd nt ∧ LI V nc nd
section
variable (d : Nat) (fm : Value) (X : Nat × (Nat → Int32)) (s T : Nat → Nat → Int32) (t : Nat → Nat → Int64)
variable {lv nc nd nt : Nat} {PT PG PB PF : List (List Ins)}
theorem t_Mo_copies' (hC : RC s lv T nc nd nt PT PG PB PF) : ab_T g_Mo_copies d (0, 0) [.ref 81] (HA fm X s t) (fun v h => v = none ∧ ∃ s', h = HA fm X s' t ∧ Kr w3 s s' ∧ RC s' lv T nc nd nt PT PG PB PF ∧ vR T nc nd (s' 115) = vR T nc nd (s 114) ∧ s' 81 52 = T 14 15 ∧ ∀ j, j < 40 → s' 115 j = s 114 j) := by
  refine ab_T_mono (t_Mo_copies d fm X s T t hC.1) fun v h hp => ?_
  obtain ⟨rfl, rfl⟩ := hp
  exact ⟨rfl, _, rfl, cpS_k s T, hC.k (cpS_k s T).m34, cpS_v s T hC.1.2.2.1.2 hC.1.2.2.2.1.2, cpS_l s T, fun j hj => f40_lt hj⟩
theorem t_Mo_doesHold (hC : RC s lv T nc nd nt PT PG PB PF) (hI : SI (vR T nc nd (s 115)) nc nd nt) {k : Nat} (hk : k < nt) : ab_T g_Mo_doesHold d (0, 0) [.ref 81, .int (nI k)] (HA fm X s t) (PI (bB (heldB (vR T nc nd (s 115)) k)) (HA fm X s t)) := by
  have hR := hC.1
  have h2 := hR.2.1
  have h5 := hR.2.2.1.2
  have h6 := hR.2.2.2.1.2
  have ht := hR.2.2.2.2.1.2
  obtain ⟨r1, r2⟩ := hR.2.2.2.2.2.2.2.2.2.1 k hk
  obtain ⟨e1, he1, h1⟩ := hI.2 k hk 0 (by decide)
  obtain ⟨e2, he2, h3⟩ := hI.2 k hk 1 (by decide)
  have h1' : T 21 (2 * k) = nI e1 := h1
  have h3' : T 21 (2 * k + 1) = nI e2 := h3
  have hB : heldB (vR T nc nd (s 115)) k = (!decide (s 115 (15 + e1) < 0) && (!decide (s 115 (15 + e2) < 0) && !decide (s 115 (15 + e1) = s 115 (15 + e2)))) := by
    unfold heldB
    rw [vR_o (show (21 : Nat) ≠ 11 by decide), h1', h3', nI_c (by omega), nI_c (by omega), vR_s h5 h6 he1, vR_s h5 h6 he2]
  rw [hB]
  refine ab_T_of (M := m_Mo_doesHold) rfl rfl (Nat.le_of_ble_eq_true rfl) ?_
  show ab_Z m_Mo_doesHold _ _ _ 0 [_, _, _, _] [] _
  refine ab_go ok_Mo_doesHold 11 rfl ?_
  show ab_Z m_Mo_doesHold _ _ _ 11 [_, _, _, _] [_, _, _, _] _
  rw [hR.1]
  refine ab_ia ok_Mo_doesHold rfl rfl (k := (6 * lv + k)) (by first | rfl | (simp only [LL1, LL2, LL3, LL4, LL5, LL6, LL7, LL8, LL10, LL15, LL18, LL20, LL21, LL22, LL23, LL24, LL32, LL39, LL40, LL130, LL420, pk_mul, nI_add]; done) | (simp only [LL1, LL2, LL3, LL4, LL5, LL6, LL7, LL8, LL10, LL15, LL18, LL20, LL21, LL22, LL23, LL24, LL32, LL39, LL40, LL130, LL420, pk_mul, nI_add]; congr 1; omega)) (by omega) (Nat.le_of_ble_eq_true rfl) ?_
  show ab_Z m_Mo_doesHold _ _ _ 12 [_, _, _, _] [_, _, _] _
  rw [r1, h1']
  refine ab_go ok_Mo_doesHold 1 rfl ?_
  show ab_Z m_Mo_doesHold _ _ _ 13 [_, _, _, _] [_, _] _
  refine ab_ia ok_Mo_doesHold rfl rfl (k := (15 + e1)) (by first | rfl | (simp only [LL1, LL2, LL3, LL4, LL5, LL6, LL7, LL8, LL10, LL15, LL18, LL20, LL21, LL22, LL23, LL24, LL32, LL39, LL40, LL130, LL420, pk_mul, nI_add]; done) | (simp only [LL1, LL2, LL3, LL4, LL5, LL6, LL7, LL8, LL10, LL15, LL18, LL20, LL21, LL22, LL23, LL24, LL32, LL39, LL40, LL130, LL420, pk_mul, nI_add]; congr 1; omega)) (by omega) (Nat.le_of_ble_eq_true rfl) ?_
  show ab_Z m_Mo_doesHold _ _ _ 14 [_, _, _, _] [_] _
  refine ab_go ok_Mo_doesHold 12 rfl ?_
  show ab_Z m_Mo_doesHold _ _ _ 26 [_, _, _, _] [_, _, _, _] _
  rw [hR.1]
  refine ab_ia ok_Mo_doesHold rfl rfl (k := (6 * lv + k)) (by first | rfl | (simp only [LL1, LL2, LL3, LL4, LL5, LL6, LL7, LL8, LL10, LL15, LL18, LL20, LL21, LL22, LL23, LL24, LL32, LL39, LL40, LL130, LL420, pk_mul, nI_add]; done) | (simp only [LL1, LL2, LL3, LL4, LL5, LL6, LL7, LL8, LL10, LL15, LL18, LL20, LL21, LL22, LL23, LL24, LL32, LL39, LL40, LL130, LL420, pk_mul, nI_add]; congr 1; omega)) (by omega) (Nat.le_of_ble_eq_true rfl) ?_
  show ab_Z m_Mo_doesHold _ _ _ 27 [_, _, _, _] [_, _, _] _
  rw [r2, h3']
  refine ab_go ok_Mo_doesHold 1 rfl ?_
  show ab_Z m_Mo_doesHold _ _ _ 28 [_, _, _, _] [_, _] _
  refine ab_ia ok_Mo_doesHold rfl rfl (k := (15 + e2)) (by first | rfl | (simp only [LL1, LL2, LL3, LL4, LL5, LL6, LL7, LL8, LL10, LL15, LL18, LL20, LL21, LL22, LL23, LL24, LL32, LL39, LL40, LL130, LL420, pk_mul, nI_add]; done) | (simp only [LL1, LL2, LL3, LL4, LL5, LL6, LL7, LL8, LL10, LL15, LL18, LL20, LL21, LL22, LL23, LL24, LL32, LL39, LL40, LL130, LL420, pk_mul, nI_add]; congr 1; omega)) (by omega) (Nat.le_of_ble_eq_true rfl) ?_
  show ab_Z m_Mo_doesHold _ _ _ 29 [_, _, _, _] [_] _
  refine ab_go ok_Mo_doesHold 2 rfl ?_
  show ab_Z m_Mo_doesHold _ _ _ 31 [_, _, _, _] [_] _
  refine ab_br ok_Mo_doesHold rfl rfl ?_ ?_
  · intro g1
    show ab_Z m_Mo_doesHold _ _ _ 39 [_, _, _, _] [] _
    refine ab_go ok_Mo_doesHold 1 rfl ?_
    show ab_Z m_Mo_doesHold _ _ _ 40 [_, _, _, _] [_] _
    exact ab_rZ ok_Mo_doesHold rfl (by first | decide | exact bB_01 _ | exact bI_01 _) (⟨by rw [decide_eq_true g1]; rfl, rfl⟩)
  · intro g1
    show ab_Z m_Mo_doesHold _ _ _ 32 [_, _, _, _] [] _
    refine ab_go ok_Mo_doesHold 1 rfl ?_
    show ab_Z m_Mo_doesHold _ _ _ 33 [_, _, _, _] [_] _
    refine ab_br ok_Mo_doesHold rfl rfl ?_ ?_
    · intro g2
      show ab_Z m_Mo_doesHold _ _ _ 39 [_, _, _, _] [] _
      refine ab_go ok_Mo_doesHold 1 rfl ?_
      show ab_Z m_Mo_doesHold _ _ _ 40 [_, _, _, _] [_] _
      exact ab_rZ ok_Mo_doesHold rfl (by first | decide | exact bB_01 _ | exact bI_01 _) (⟨by rw [decide_eq_true g2, Bool.not_true, Bool.false_and, Bool.and_false]; rfl, rfl⟩)
    · intro g2
      show ab_Z m_Mo_doesHold _ _ _ 34 [_, _, _, _] [] _
      refine ab_go ok_Mo_doesHold 2 rfl ?_
      show ab_Z m_Mo_doesHold _ _ _ 36 [_, _, _, _] [_, _] _
      refine ab_br ok_Mo_doesHold rfl rfl ?_ ?_
      · intro g3
        show ab_Z m_Mo_doesHold _ _ _ 39 [_, _, _, _] [] _
        refine ab_go ok_Mo_doesHold 1 rfl ?_
        show ab_Z m_Mo_doesHold _ _ _ 40 [_, _, _, _] [_] _
        exact ab_rZ ok_Mo_doesHold rfl (by first | decide | exact bB_01 _ | exact bI_01 _) (⟨by rw [decide_eq_true g3, Bool.not_true, Bool.and_false, Bool.and_false]; rfl, rfl⟩)
      · intro g3
        show ab_Z m_Mo_doesHold _ _ _ 37 [_, _, _, _] [] _
        refine ab_go ok_Mo_doesHold 2 rfl ?_
        show ab_Z m_Mo_doesHold _ _ _ 40 [_, _, _, _] [_] _
        exact ab_rZ ok_Mo_doesHold rfl (by first | decide | exact bB_01 _ | exact bI_01 _) (⟨by rw [decide_eq_false g1, decide_eq_false g2, decide_eq_false g3]; rfl, rfl⟩)
theorem t_Mo_clerk (hC : RC s lv T nc nd nt PT PG PB PF) (x w : Int32) : ab_T g_Mo_clerk (d + 2) (0, 0) [.ref 81, .int x, .int w] (HA fm X s t) (PR w4 (if inR nc x then clkA (vR T nc nd (s 114)) nd x.toNatClampNeg w else -1) fm X s t) := by
  have hR := hC.1
  have h5 := hR.2.2.1.2
  have h6 := hR.2.2.2.1.2
  refine ab_T_of (M := m_Mo_clerk) rfl rfl (Nat.le_of_ble_eq_true rfl) ?_
  show ab_Z m_Mo_clerk _ _ _ 0 [_, _, _] [] _
  refine ab_go ok_Mo_clerk 2 rfl ?_
  show ab_Z m_Mo_clerk _ _ _ 2 [_, _, _] [_, _] _
  refine ab_cl ok_Mo_clerk rfl [_, _] [] rfl ⟨_, _, rfl, rfl, Or.inl ⟨_, _, rfl, rfl⟩⟩ (Nat.le_of_ble_eq_true rfl) (t_Mo_isClerk d fm X s T t hR x) ?_
  rintro _ _ ⟨rfl, rfl⟩
  show ab_Z m_Mo_clerk _ _ _ 3 [_, _, _] [_] _
  refine ab_br ok_Mo_clerk rfl rfl ?_ ?_
  · intro h1
    show ab_Z m_Mo_clerk _ _ _ 4 [_, _, _] [] _
    refine ab_go ok_Mo_clerk 1 rfl ?_
    show ab_Z m_Mo_clerk _ _ _ 5 [_, _, _] [_] _
    exact ab_rI ok_Mo_clerk rfl (⟨by rw [if_neg (bI_0.mp h1)], s, rfl, Kr.rf w4 s⟩)
  · intro h1
    show ab_Z m_Mo_clerk _ _ _ 6 [_, _, _] [] _
    have h2 := bI_n0 h1
    rw [if_pos h2]
    clear h1
    obtain ⟨c, hc, rfl⟩ := inR_nat h2
    rw [nI_c (by omega)]
    refine ab_go ok_Mo_clerk 1 rfl ?_
    show ab_Z m_Mo_clerk _ _ _ 7 [_, _, _] [_] _
    refine ab_cl ok_Mo_clerk rfl [_] [] rfl ⟨_, _, rfl, rfl, Or.inl ⟨_, _, rfl, rfl⟩⟩ (Nat.le_of_ble_eq_true rfl) (t_Mo_copies' (d + 1) fm X s T t hC) ?_
    rintro _ _ ⟨rfl, s1, rfl, k1, hC1, hv1, hl1, h40⟩
    show ab_Z m_Mo_clerk _ _ _ 8 [_, _, _] [] _
    rw [← hv1]
    refine ab_go ok_Mo_clerk 1 rfl ?_
    show ab_Z m_Mo_clerk _ _ _ 9 [_, _, _] [_] _
    rcases sw_9 w with (rfl | rfl | rfl | rfl | rfl | rfl | rfl | rfl | rfl) | h
    · refine ab_go ok_Mo_clerk 1 rfl ?_
      rw [show ab_tgt 0 [10, 10, 10, 19, 19, 19, 26, 30, 35] 39 0 = 10 from by decide]
      show ab_Z m_Mo_clerk _ _ _ 10 [_, _, _] [] _
      refine ab_go ok_Mo_clerk 7 rfl ?_
      show ab_Z m_Mo_clerk _ _ _ 17 [_, _, _] [_, _] _
      refine ab_ia ok_Mo_clerk rfl rfl (k := (3 * c)) (by rw [Int32.add_zero, LL3, pk_mul]) (by omega) (Nat.le_of_ble_eq_true rfl) ?_
      show ab_Z m_Mo_clerk _ _ _ 18 [_, _, _] [_] _
      exact ab_rI ok_Mo_clerk rfl (⟨som (vR_l (T := T) (nd := nd) (r := s1 115) (f := 0) hc (by decide)).symm, s1, rfl, k1.m34⟩)
    · refine ab_go ok_Mo_clerk 1 rfl ?_
      rw [show ab_tgt 0 [10, 10, 10, 19, 19, 19, 26, 30, 35] 39 1 = 10 from by decide]
      show ab_Z m_Mo_clerk _ _ _ 10 [_, _, _] [] _
      refine ab_go ok_Mo_clerk 7 rfl ?_
      show ab_Z m_Mo_clerk _ _ _ 17 [_, _, _] [_, _] _
      refine ab_ia ok_Mo_clerk rfl rfl (k := (3 * c + 1)) (by first | rfl | (simp only [LL1, LL2, LL3, LL4, LL5, LL6, LL7, LL8, LL10, LL15, LL18, LL20, LL21, LL22, LL23, LL24, LL32, LL39, LL40, LL130, LL420, pk_mul, nI_add]; done) | (simp only [LL1, LL2, LL3, LL4, LL5, LL6, LL7, LL8, LL10, LL15, LL18, LL20, LL21, LL22, LL23, LL24, LL32, LL39, LL40, LL130, LL420, pk_mul, nI_add]; congr 1; omega)) (by omega) (Nat.le_of_ble_eq_true rfl) ?_
      show ab_Z m_Mo_clerk _ _ _ 18 [_, _, _] [_] _
      exact ab_rI ok_Mo_clerk rfl (⟨som (vR_l (T := T) (nd := nd) (r := s1 115) (f := 1) hc (by decide)).symm, s1, rfl, k1.m34⟩)
    · refine ab_go ok_Mo_clerk 1 rfl ?_
      rw [show ab_tgt 0 [10, 10, 10, 19, 19, 19, 26, 30, 35] 39 2 = 10 from by decide]
      show ab_Z m_Mo_clerk _ _ _ 10 [_, _, _] [] _
      refine ab_go ok_Mo_clerk 7 rfl ?_
      show ab_Z m_Mo_clerk _ _ _ 17 [_, _, _] [_, _] _
      refine ab_ia ok_Mo_clerk rfl rfl (k := (3 * c + 2)) (by first | rfl | (simp only [LL1, LL2, LL3, LL4, LL5, LL6, LL7, LL8, LL10, LL15, LL18, LL20, LL21, LL22, LL23, LL24, LL32, LL39, LL40, LL130, LL420, pk_mul, nI_add]; done) | (simp only [LL1, LL2, LL3, LL4, LL5, LL6, LL7, LL8, LL10, LL15, LL18, LL20, LL21, LL22, LL23, LL24, LL32, LL39, LL40, LL130, LL420, pk_mul, nI_add]; congr 1; omega)) (by omega) (Nat.le_of_ble_eq_true rfl) ?_
      show ab_Z m_Mo_clerk _ _ _ 18 [_, _, _] [_] _
      exact ab_rI ok_Mo_clerk rfl (⟨som (vR_l (T := T) (nd := nd) (r := s1 115) (f := 2) hc (by decide)).symm, s1, rfl, k1.m34⟩)
    · refine ab_go ok_Mo_clerk 1 rfl ?_
      rw [show ab_tgt 0 [10, 10, 10, 19, 19, 19, 26, 30, 35] 39 3 = 19 from by decide]
      show ab_Z m_Mo_clerk _ _ _ 19 [_, _, _] [] _
      refine ab_go ok_Mo_clerk 5 rfl ?_
      show ab_Z m_Mo_clerk _ _ _ 24 [_, _, _] [_, _, _] _
      refine ab_cl ok_Mo_clerk rfl [_, _, _] [] rfl ⟨_, _, rfl, rfl, Or.inl ⟨_, _, rfl, rfl⟩⟩ (Nat.le_of_ble_eq_true rfl) (t_Mo_firstLevel (d + 1) fm X s1 T t hC1.1 hc (f := 0) (by decide)) ?_
      rintro _ _ ⟨rfl, rfl⟩
      show ab_Z m_Mo_clerk _ _ _ 25 [_, _, _] [_] _
      exact ab_rI ok_Mo_clerk rfl (⟨rfl, s1, rfl, k1.m34⟩)
    · refine ab_go ok_Mo_clerk 1 rfl ?_
      rw [show ab_tgt 0 [10, 10, 10, 19, 19, 19, 26, 30, 35] 39 4 = 19 from by decide]
      show ab_Z m_Mo_clerk _ _ _ 19 [_, _, _] [] _
      refine ab_go ok_Mo_clerk 5 rfl ?_
      show ab_Z m_Mo_clerk _ _ _ 24 [_, _, _] [_, _, _] _
      refine ab_cl ok_Mo_clerk rfl [_, _, _] [] rfl ⟨_, _, rfl, rfl, Or.inl ⟨_, _, rfl, rfl⟩⟩ (Nat.le_of_ble_eq_true rfl) (t_Mo_firstLevel (d + 1) fm X s1 T t hC1.1 hc (f := 1) (by decide)) ?_
      rintro _ _ ⟨rfl, rfl⟩
      show ab_Z m_Mo_clerk _ _ _ 25 [_, _, _] [_] _
      exact ab_rI ok_Mo_clerk rfl (⟨rfl, s1, rfl, k1.m34⟩)
    · refine ab_go ok_Mo_clerk 1 rfl ?_
      rw [show ab_tgt 0 [10, 10, 10, 19, 19, 19, 26, 30, 35] 39 5 = 19 from by decide]
      show ab_Z m_Mo_clerk _ _ _ 19 [_, _, _] [] _
      refine ab_go ok_Mo_clerk 5 rfl ?_
      show ab_Z m_Mo_clerk _ _ _ 24 [_, _, _] [_, _, _] _
      refine ab_cl ok_Mo_clerk rfl [_, _, _] [] rfl ⟨_, _, rfl, rfl, Or.inl ⟨_, _, rfl, rfl⟩⟩ (Nat.le_of_ble_eq_true rfl) (t_Mo_firstLevel (d + 1) fm X s1 T t hC1.1 hc (f := 2) (by decide)) ?_
      rintro _ _ ⟨rfl, rfl⟩
      show ab_Z m_Mo_clerk _ _ _ 25 [_, _, _] [_] _
      exact ab_rI ok_Mo_clerk rfl (⟨rfl, s1, rfl, k1.m34⟩)
    · refine ab_go ok_Mo_clerk 1 rfl ?_
      rw [show ab_tgt 0 [10, 10, 10, 19, 19, 19, 26, 30, 35] 39 6 = 26 from by decide]
      show ab_Z m_Mo_clerk _ _ _ 26 [_, _, _] [] _
      refine ab_go ok_Mo_clerk 2 rfl ?_
      show ab_Z m_Mo_clerk _ _ _ 28 [_, _, _] [_, _] _
      refine ab_cl ok_Mo_clerk rfl [_, _] [] rfl ⟨_, _, rfl, rfl, Or.inl ⟨_, _, rfl, rfl⟩⟩ (Nat.le_of_ble_eq_true rfl) (t_Mo_ageNow (d + 1) fm X s1 T t hC1.1 hc) ?_
      rintro _ _ ⟨rfl, rfl⟩
      show ab_Z m_Mo_clerk _ _ _ 29 [_, _, _] [_] _
      exact ab_rI ok_Mo_clerk rfl (⟨som (congrArg (T 16 c + ·) (vR_y (T := T) (r := s1 115) h5 h6).symm), s1, rfl, k1.m34⟩)
    · refine ab_go ok_Mo_clerk 1 rfl ?_
      rw [show ab_tgt 0 [10, 10, 10, 19, 19, 19, 26, 30, 35] 39 7 = 30 from by decide]
      show ab_Z m_Mo_clerk _ _ _ 30 [_, _, _] [] _
      refine ab_go ok_Mo_clerk 2 rfl ?_
      show ab_Z m_Mo_clerk _ _ _ 32 [_, _, _] [_, _] _
      refine ab_cl ok_Mo_clerk rfl [_, _] [] rfl ⟨_, _, rfl, rfl, Or.inl ⟨_, _, rfl, rfl⟩⟩ (Nat.le_of_ble_eq_true rfl) (t_Mo_sealedBits (d + 1) fm X s1 T t hC1.1 (nI c)) ?_
      rintro _ _ ⟨rfl, rfl⟩
      show ab_Z m_Mo_clerk _ _ _ 33 [_, _, _] [_] _
      refine ab_cl ok_Mo_clerk rfl [_] [] rfl rfl (Nat.le_of_ble_eq_true rfl) (t_Mo_bits (d + 1) _ (Nat.lt_of_lt_of_le (bitsN_lt _ nd) (Nat.pow_le_pow_right (by decide) h6 : 2 ^ nd ≤ 2 ^ 6))) ?_
      rintro _ _ ⟨rfl, rfl⟩
      show ab_Z m_Mo_clerk _ _ _ 34 [_, _, _] [_] _
      exact ab_rI ok_Mo_clerk rfl (⟨som (nsV_v (T := T) (r := s1 115) h5 h6 c).symm, s1, rfl, k1.m34⟩)
    · refine ab_go ok_Mo_clerk 1 rfl ?_
      rw [show ab_tgt 0 [10, 10, 10, 19, 19, 19, 26, 30, 35] 39 8 = 35 from by decide]
      show ab_Z m_Mo_clerk _ _ _ 35 [_, _, _] [] _
      refine ab_go ok_Mo_clerk 2 rfl ?_
      show ab_Z m_Mo_clerk _ _ _ 37 [_, _, _] [_, _] _
      refine ab_cl ok_Mo_clerk rfl [_, _] [] rfl ⟨_, _, rfl, rfl, Or.inl ⟨_, _, rfl, rfl⟩⟩ (Nat.le_of_ble_eq_true rfl) (t_Mo_sealedBits (d + 1) fm X s1 T t hC1.1 (nI c)) ?_
      rintro _ _ ⟨rfl, rfl⟩
      show ab_Z m_Mo_clerk _ _ _ 38 [_, _, _] [_] _
      exact ab_rI ok_Mo_clerk rfl (⟨som (show nI (bitsN (fun k => decide (s1 115 (15 + k) = nI c)) nd) = nI (bitsN (fun k => decide (vR T nc nd (s1 115) 11 (33 + k) = nI c)) nd) from congrArg nI (bitsN_cg (fun k hk => by rw [vR_s h5 h6 hk]))), s1, rfl, k1.m34⟩)
    · refine ab_go ok_Mo_clerk 1 rfl ?_
      rw [ab_tgt_d (h)]
      show ab_Z m_Mo_clerk _ _ _ 39 [_, _, _] [] _
      refine ab_go ok_Mo_clerk 1 rfl ?_
      show ab_Z m_Mo_clerk _ _ _ 40 [_, _, _] [_] _
      have ho := out_n (n := 9) h
      exact ab_rI ok_Mo_clerk rfl (⟨by rw [clkA, if_neg (ho 0 (by decide) (by decide)), if_neg (ho 1 (by decide) (by decide)), if_neg (ho 2 (by decide) (by decide)), if_neg (ho 3 (by decide) (by decide)), if_neg (ho 4 (by decide) (by decide)), if_neg (ho 5 (by decide) (by decide)), if_neg (ho 6 (by decide) (by decide)), if_neg (ho 7 (by decide) (by decide)), if_neg (ho 8 (by decide) (by decide))], s1, rfl, k1.m34⟩)
theorem t_Mo_deed (hC : RC s lv T nc nd nt PT PG PB PF) (hQ : QI (vR T nc nd (s 114)) nc nd nt) (x w : Int32) : ab_T g_Mo_deed (d + 3) (0, 0) [.ref 81, .int x, .int w] (HA fm X s t) (PR w4 (if inR nd x then deedA (vR T nc nd (s 114)) PB PF nd x.toNatClampNeg w else -1) fm X s t) := by
  have hR := hC.1
  have h5 := hR.2.2.1.2
  have h6 := hR.2.2.2.1.2
  refine ab_T_of (M := m_Mo_deed) rfl rfl (Nat.le_of_ble_eq_true rfl) ?_
  show ab_Z m_Mo_deed _ _ _ 0 [_, _, _] [] _
  refine ab_go ok_Mo_deed 2 rfl ?_
  show ab_Z m_Mo_deed _ _ _ 2 [_, _, _] [_, _] _
  refine ab_cl ok_Mo_deed rfl [_, _] [] rfl ⟨_, _, rfl, rfl, Or.inl ⟨_, _, rfl, rfl⟩⟩ (Nat.le_of_ble_eq_true rfl) (t_Mo_isDeed (d + 1) fm X s T t hR x) ?_
  rintro _ _ ⟨rfl, rfl⟩
  show ab_Z m_Mo_deed _ _ _ 3 [_, _, _] [_] _
  refine ab_br ok_Mo_deed rfl rfl ?_ ?_
  · intro h1
    show ab_Z m_Mo_deed _ _ _ 4 [_, _, _] [] _
    refine ab_go ok_Mo_deed 1 rfl ?_
    show ab_Z m_Mo_deed _ _ _ 5 [_, _, _] [_] _
    exact ab_rI ok_Mo_deed rfl (⟨by rw [if_neg (bI_0.mp h1)], s, rfl, Kr.rf w4 s⟩)
  · intro h1
    show ab_Z m_Mo_deed _ _ _ 6 [_, _, _] [] _
    have h2 := bI_n0 h1
    rw [if_pos h2]
    clear h1
    obtain ⟨e, he, rfl⟩ := inR_nat h2
    rw [nI_c (by omega)]
    refine ab_go ok_Mo_deed 1 rfl ?_
    show ab_Z m_Mo_deed _ _ _ 7 [_, _, _] [_] _
    refine ab_cl ok_Mo_deed rfl [_] [] rfl ⟨_, _, rfl, rfl, Or.inl ⟨_, _, rfl, rfl⟩⟩ (Nat.le_of_ble_eq_true rfl) (t_Mo_copies' (d + 2) fm X s T t hC) ?_
    rintro _ _ ⟨rfl, s1, rfl, k1, hC1, hv1, hl1, h40⟩
    show ab_Z m_Mo_deed _ _ _ 8 [_, _, _] [] _
    rw [← hv1] at hQ ⊢
    refine ab_go ok_Mo_deed 1 rfl ?_
    show ab_Z m_Mo_deed _ _ _ 9 [_, _, _] [_] _
    rcases sw_9 w with (rfl | rfl | rfl | rfl | rfl | rfl | rfl | rfl | rfl) | h
    · refine ab_go ok_Mo_deed 1 rfl ?_
      rw [show ab_tgt 0 [10, 10, 10, 15, 15, 15, 26, 30, 37] 41 0 = 10 from by decide]
      show ab_Z m_Mo_deed _ _ _ 10 [_, _, _] [] _
      refine ab_go ok_Mo_deed 3 rfl ?_
      show ab_Z m_Mo_deed _ _ _ 13 [_, _, _] [_, _, _] _
      refine ab_cl ok_Mo_deed rfl [_, _, _] [] rfl ⟨_, _, rfl, rfl, Or.inl ⟨_, _, rfl, rfl⟩⟩ (Nat.le_of_ble_eq_true rfl) (t_Mo_needAt (d + 2) fm X s1 T t hC1.1 he (f := 0) (by decide)) ?_
      rintro _ _ ⟨rfl, rfl⟩
      show ab_Z m_Mo_deed _ _ _ 14 [_, _, _] [_] _
      exact ab_rI ok_Mo_deed rfl (⟨rfl, s1, rfl, k1.m34⟩)
    · refine ab_go ok_Mo_deed 1 rfl ?_
      rw [show ab_tgt 0 [10, 10, 10, 15, 15, 15, 26, 30, 37] 41 1 = 10 from by decide]
      show ab_Z m_Mo_deed _ _ _ 10 [_, _, _] [] _
      refine ab_go ok_Mo_deed 3 rfl ?_
      show ab_Z m_Mo_deed _ _ _ 13 [_, _, _] [_, _, _] _
      refine ab_cl ok_Mo_deed rfl [_, _, _] [] rfl ⟨_, _, rfl, rfl, Or.inl ⟨_, _, rfl, rfl⟩⟩ (Nat.le_of_ble_eq_true rfl) (t_Mo_needAt (d + 2) fm X s1 T t hC1.1 he (f := 1) (by decide)) ?_
      rintro _ _ ⟨rfl, rfl⟩
      show ab_Z m_Mo_deed _ _ _ 14 [_, _, _] [_] _
      exact ab_rI ok_Mo_deed rfl (⟨rfl, s1, rfl, k1.m34⟩)
    · refine ab_go ok_Mo_deed 1 rfl ?_
      rw [show ab_tgt 0 [10, 10, 10, 15, 15, 15, 26, 30, 37] 41 2 = 10 from by decide]
      show ab_Z m_Mo_deed _ _ _ 10 [_, _, _] [] _
      refine ab_go ok_Mo_deed 3 rfl ?_
      show ab_Z m_Mo_deed _ _ _ 13 [_, _, _] [_, _, _] _
      refine ab_cl ok_Mo_deed rfl [_, _, _] [] rfl ⟨_, _, rfl, rfl, Or.inl ⟨_, _, rfl, rfl⟩⟩ (Nat.le_of_ble_eq_true rfl) (t_Mo_needAt (d + 2) fm X s1 T t hC1.1 he (f := 2) (by decide)) ?_
      rintro _ _ ⟨rfl, rfl⟩
      show ab_Z m_Mo_deed _ _ _ 14 [_, _, _] [_] _
      exact ab_rI ok_Mo_deed rfl (⟨rfl, s1, rfl, k1.m34⟩)
    · refine ab_go ok_Mo_deed 1 rfl ?_
      rw [show ab_tgt 0 [10, 10, 10, 15, 15, 15, 26, 30, 37] 41 3 = 15 from by decide]
      show ab_Z m_Mo_deed _ _ _ 15 [_, _, _] [] _
      refine ab_go ok_Mo_deed 9 rfl ?_
      show ab_Z m_Mo_deed _ _ _ 24 [_, _, _] [_, _] _
      refine ab_ia ok_Mo_deed rfl rfl (k := (21 + 3 * e + 0)) (by first | rfl | (simp only [LL1, LL2, LL3, LL4, LL5, LL6, LL7, LL8, LL10, LL15, LL18, LL20, LL21, LL22, LL23, LL24, LL32, LL39, LL40, LL130, LL420, pk_mul, nI_add]; done) | (simp only [LL1, LL2, LL3, LL4, LL5, LL6, LL7, LL8, LL10, LL15, LL18, LL20, LL21, LL22, LL23, LL24, LL32, LL39, LL40, LL130, LL420, pk_mul, nI_add]; congr 1; omega)) (by omega) (Nat.le_of_ble_eq_true rfl) ?_
      show ab_Z m_Mo_deed _ _ _ 25 [_, _, _] [_] _
      exact ab_rI ok_Mo_deed rfl (⟨som (vR_p (T := T) (r := s1 115) (f := 0) h5 he (by decide)).symm, s1, rfl, k1.m34⟩)
    · refine ab_go ok_Mo_deed 1 rfl ?_
      rw [show ab_tgt 0 [10, 10, 10, 15, 15, 15, 26, 30, 37] 41 4 = 15 from by decide]
      show ab_Z m_Mo_deed _ _ _ 15 [_, _, _] [] _
      refine ab_go ok_Mo_deed 9 rfl ?_
      show ab_Z m_Mo_deed _ _ _ 24 [_, _, _] [_, _] _
      refine ab_ia ok_Mo_deed rfl rfl (k := (21 + 3 * e + 1)) (by first | rfl | (simp only [LL1, LL2, LL3, LL4, LL5, LL6, LL7, LL8, LL10, LL15, LL18, LL20, LL21, LL22, LL23, LL24, LL32, LL39, LL40, LL130, LL420, pk_mul, nI_add]; done) | (simp only [LL1, LL2, LL3, LL4, LL5, LL6, LL7, LL8, LL10, LL15, LL18, LL20, LL21, LL22, LL23, LL24, LL32, LL39, LL40, LL130, LL420, pk_mul, nI_add]; congr 1; omega)) (by omega) (Nat.le_of_ble_eq_true rfl) ?_
      show ab_Z m_Mo_deed _ _ _ 25 [_, _, _] [_] _
      exact ab_rI ok_Mo_deed rfl (⟨som (vR_p (T := T) (r := s1 115) (f := 1) h5 he (by decide)).symm, s1, rfl, k1.m34⟩)
    · refine ab_go ok_Mo_deed 1 rfl ?_
      rw [show ab_tgt 0 [10, 10, 10, 15, 15, 15, 26, 30, 37] 41 5 = 15 from by decide]
      show ab_Z m_Mo_deed _ _ _ 15 [_, _, _] [] _
      refine ab_go ok_Mo_deed 9 rfl ?_
      show ab_Z m_Mo_deed _ _ _ 24 [_, _, _] [_, _] _
      refine ab_ia ok_Mo_deed rfl rfl (k := (21 + 3 * e + 2)) (by first | rfl | (simp only [LL1, LL2, LL3, LL4, LL5, LL6, LL7, LL8, LL10, LL15, LL18, LL20, LL21, LL22, LL23, LL24, LL32, LL39, LL40, LL130, LL420, pk_mul, nI_add]; done) | (simp only [LL1, LL2, LL3, LL4, LL5, LL6, LL7, LL8, LL10, LL15, LL18, LL20, LL21, LL22, LL23, LL24, LL32, LL39, LL40, LL130, LL420, pk_mul, nI_add]; congr 1; omega)) (by omega) (Nat.le_of_ble_eq_true rfl) ?_
      show ab_Z m_Mo_deed _ _ _ 25 [_, _, _] [_] _
      exact ab_rI ok_Mo_deed rfl (⟨som (vR_p (T := T) (r := s1 115) (f := 2) h5 he (by decide)).symm, s1, rfl, k1.m34⟩)
    · refine ab_go ok_Mo_deed 1 rfl ?_
      rw [show ab_tgt 0 [10, 10, 10, 15, 15, 15, 26, 30, 37] 41 6 = 26 from by decide]
      show ab_Z m_Mo_deed _ _ _ 26 [_, _, _] [] _
      refine ab_go ok_Mo_deed 2 rfl ?_
      show ab_Z m_Mo_deed _ _ _ 28 [_, _, _] [_, _] _
      refine ab_cl ok_Mo_deed rfl [_, _] [] rfl ⟨_, _, rfl, rfl, Or.inl ⟨_, _, rfl, rfl⟩⟩ (Nat.le_of_ble_eq_true rfl) (t_Mo_worthAt (d + 2) fm X s1 T t hC1.1 he) ?_
      rintro _ _ ⟨rfl, rfl⟩
      show ab_Z m_Mo_deed _ _ _ 29 [_, _, _] [_] _
      exact ab_rI ok_Mo_deed rfl (⟨rfl, s1, rfl, k1.m34⟩)
    · refine ab_go ok_Mo_deed 1 rfl ?_
      rw [show ab_tgt 0 [10, 10, 10, 15, 15, 15, 26, 30, 37] 41 7 = 30 from by decide]
      show ab_Z m_Mo_deed _ _ _ 30 [_, _, _] [] _
      refine ab_go ok_Mo_deed 5 rfl ?_
      show ab_Z m_Mo_deed _ _ _ 35 [_, _, _] [_, _] _
      refine ab_ia ok_Mo_deed rfl rfl (k := (15 + e)) (by first | rfl | (simp only [LL1, LL2, LL3, LL4, LL5, LL6, LL7, LL8, LL10, LL15, LL18, LL20, LL21, LL22, LL23, LL24, LL32, LL39, LL40, LL130, LL420, pk_mul, nI_add]; done) | (simp only [LL1, LL2, LL3, LL4, LL5, LL6, LL7, LL8, LL10, LL15, LL18, LL20, LL21, LL22, LL23, LL24, LL32, LL39, LL40, LL130, LL420, pk_mul, nI_add]; congr 1; omega)) (by omega) (Nat.le_of_ble_eq_true rfl) ?_
      show ab_Z m_Mo_deed _ _ _ 36 [_, _, _] [_] _
      exact ab_rI ok_Mo_deed rfl (⟨som (vR_s (T := T) (r := s1 115) h5 h6 he).symm, s1, rfl, k1.m34⟩)
    · refine ab_go ok_Mo_deed 1 rfl ?_
      rw [show ab_tgt 0 [10, 10, 10, 15, 15, 15, 26, 30, 37] 41 8 = 37 from by decide]
      show ab_Z m_Mo_deed _ _ _ 37 [_, _, _] [] _
      refine ab_go ok_Mo_deed 2 rfl ?_
      show ab_Z m_Mo_deed _ _ _ 39 [_, _, _] [_, _] _
      refine ab_cl ok_Mo_deed rfl [_, _] [] rfl ⟨_, _, rfl, rfl, Or.inl ⟨_, _, rfl, rfl⟩⟩ (Nat.le_of_ble_eq_true rfl) (t_Mo_bindsOf d fm X s1 T t hC1 hQ.1 he) ?_
      rintro _ _ ⟨rfl, s2, rfl, k2⟩
      show ab_Z m_Mo_deed _ _ _ 40 [_, _, _] [_] _
      exact ab_rI ok_Mo_deed rfl (⟨rfl, s2, rfl, k1.m34.tr k2.m14⟩)
    · refine ab_go ok_Mo_deed 1 rfl ?_
      rw [ab_tgt_d (h)]
      show ab_Z m_Mo_deed _ _ _ 41 [_, _, _] [] _
      refine ab_go ok_Mo_deed 1 rfl ?_
      show ab_Z m_Mo_deed _ _ _ 42 [_, _, _] [_] _
      have ho := out_n (n := 9) h
      exact ab_rI ok_Mo_deed rfl (⟨by rw [deedA, if_neg (ho 0 (by decide) (by decide)), if_neg (ho 1 (by decide) (by decide)), if_neg (ho 2 (by decide) (by decide)), if_neg (ho 3 (by decide) (by decide)), if_neg (ho 4 (by decide) (by decide)), if_neg (ho 5 (by decide) (by decide)), if_neg (ho 6 (by decide) (by decide)), if_neg (ho 7 (by decide) (by decide)), if_neg (ho 8 (by decide) (by decide))], s1, rfl, k1.m34⟩)
theorem t_Mo_treaty (hC : RC s lv T nc nd nt PT PG PB PF) (hQ : QI (vR T nc nd (s 114)) nc nd nt) (x w : Int32) : ab_T g_Mo_treaty (d + 1) (0, 0) [.ref 81, .int x, .int w] (HA fm X s t) (PR w4 (if inR nt x then trtA (vR T nc nd (s 114)) x.toNatClampNeg w else -1) fm X s t) := by
  have hR := hC.1
  have hlv := hR.2.1
  have h5 := hR.2.2.1.2
  have h6 := hR.2.2.2.1.2
  have ht := hR.2.2.2.2.1.2
  refine ab_T_of (M := m_Mo_treaty) rfl rfl (Nat.le_of_ble_eq_true rfl) ?_
  show ab_Z m_Mo_treaty _ _ _ 0 [_, _, _] [] _
  refine ab_go ok_Mo_treaty 6 rfl ?_
  show ab_Z m_Mo_treaty _ _ _ 6 [_, _, _] [_, _, _, _] _
  rw [hR.1]
  refine ab_ia ok_Mo_treaty rfl rfl (k := lv) (by first | rfl | (simp only [LL1, LL2, LL3, LL4, LL5, LL6, LL7, LL8, LL10, LL15, LL18, LL20, LL21, LL22, LL23, LL24, LL32, LL39, LL40, LL130, LL420, pk_mul, nI_add]; done) | (simp only [LL1, LL2, LL3, LL4, LL5, LL6, LL7, LL8, LL10, LL15, LL18, LL20, LL21, LL22, LL23, LL24, LL32, LL39, LL40, LL130, LL420, pk_mul, nI_add]; congr 1; omega)) (by omega) (Nat.le_of_ble_eq_true rfl) ?_
  show ab_Z m_Mo_treaty _ _ _ 7 [_, _, _] [_, _, _] _
  rw [hR.2.2.2.2.1.1]
  refine ab_go ok_Mo_treaty 2 rfl ?_
  show ab_Z m_Mo_treaty _ _ _ 9 [_, _, _] [_, _, _] _
  refine ab_cl ok_Mo_treaty rfl [_, _, _] [] rfl rfl (Nat.le_of_ble_eq_true rfl) (t_Mo_in d _ x 0 _) ?_
  rintro _ _ ⟨rfl, rfl⟩
  show ab_Z m_Mo_treaty _ _ _ 10 [_, _, _] [_] _
  rw [bI_c (show (0 : Int32).toInt ≤ x.toInt ∧ x.toInt ≤ (nI nt - 1).toInt ↔ inR nt x from by
    rw [nI_sub1T (by omega)]
    show (0 : Int) ≤ x.toInt ∧ x.toInt ≤ (nt : Int) - 1 ↔ _
    unfold inR
    omega)]
  refine ab_br ok_Mo_treaty rfl rfl ?_ ?_
  · intro h1
    show ab_Z m_Mo_treaty _ _ _ 11 [_, _, _] [] _
    refine ab_go ok_Mo_treaty 1 rfl ?_
    show ab_Z m_Mo_treaty _ _ _ 12 [_, _, _] [_] _
    exact ab_rI ok_Mo_treaty rfl (⟨by rw [if_neg (bI_0.mp h1)], s, rfl, Kr.rf w4 s⟩)
  · intro h1
    show ab_Z m_Mo_treaty _ _ _ 13 [_, _, _] [] _
    have h2 := bI_n0 h1
    rw [if_pos h2]
    clear h1
    obtain ⟨k, hk, rfl⟩ := inR_nat h2
    rw [nI_c (by omega)]
    refine ab_go ok_Mo_treaty 1 rfl ?_
    show ab_Z m_Mo_treaty _ _ _ 14 [_, _, _] [_] _
    refine ab_cl ok_Mo_treaty rfl [_] [] rfl ⟨_, _, rfl, rfl, Or.inl ⟨_, _, rfl, rfl⟩⟩ (Nat.le_of_ble_eq_true rfl) (t_Mo_copies' d fm X s T t hC) ?_
    rintro _ _ ⟨rfl, s1, rfl, k1, hC1, hv1, hl1, h40⟩
    show ab_Z m_Mo_treaty _ _ _ 15 [_, _, _] [] _
    rw [← hv1] at hQ ⊢
    obtain ⟨r1, r2⟩ := hC1.1.2.2.2.2.2.2.2.2.2.1 k hk
    refine ab_go ok_Mo_treaty 1 rfl ?_
    show ab_Z m_Mo_treaty _ _ _ 16 [_, _, _] [_] _
    rcases sw_3 w with (rfl | rfl | rfl) | h
    · refine ab_go ok_Mo_treaty 1 rfl ?_
      rw [show ab_tgt 0 [17, 27, 37] 45 0 = 17 from by decide]
      show ab_Z m_Mo_treaty _ _ _ 17 [_, _, _] [] _
      refine ab_go ok_Mo_treaty 8 rfl ?_
      show ab_Z m_Mo_treaty _ _ _ 25 [_, _, _] [_, _] _
      rw [hC1.1.1]
      refine ab_ia ok_Mo_treaty rfl rfl (k := (6 * lv + k)) (by first | rfl | (simp only [LL1, LL2, LL3, LL4, LL5, LL6, LL7, LL8, LL10, LL15, LL18, LL20, LL21, LL22, LL23, LL24, LL32, LL39, LL40, LL130, LL420, pk_mul, nI_add]; done) | (simp only [LL1, LL2, LL3, LL4, LL5, LL6, LL7, LL8, LL10, LL15, LL18, LL20, LL21, LL22, LL23, LL24, LL32, LL39, LL40, LL130, LL420, pk_mul, nI_add]; congr 1; omega)) (by omega) (Nat.le_of_ble_eq_true rfl) ?_
      show ab_Z m_Mo_treaty _ _ _ 26 [_, _, _] [_] _
      rw [r1]
      exact ab_rI ok_Mo_treaty rfl (⟨rfl, s1, rfl, k1.m34⟩)
    · refine ab_go ok_Mo_treaty 1 rfl ?_
      rw [show ab_tgt 0 [17, 27, 37] 45 1 = 27 from by decide]
      show ab_Z m_Mo_treaty _ _ _ 27 [_, _, _] [] _
      refine ab_go ok_Mo_treaty 8 rfl ?_
      show ab_Z m_Mo_treaty _ _ _ 35 [_, _, _] [_, _] _
      rw [hC1.1.1]
      refine ab_ia ok_Mo_treaty rfl rfl (k := (6 * lv + k)) (by first | rfl | (simp only [LL1, LL2, LL3, LL4, LL5, LL6, LL7, LL8, LL10, LL15, LL18, LL20, LL21, LL22, LL23, LL24, LL32, LL39, LL40, LL130, LL420, pk_mul, nI_add]; done) | (simp only [LL1, LL2, LL3, LL4, LL5, LL6, LL7, LL8, LL10, LL15, LL18, LL20, LL21, LL22, LL23, LL24, LL32, LL39, LL40, LL130, LL420, pk_mul, nI_add]; congr 1; omega)) (by omega) (Nat.le_of_ble_eq_true rfl) ?_
      show ab_Z m_Mo_treaty _ _ _ 36 [_, _, _] [_] _
      rw [r2]
      exact ab_rI ok_Mo_treaty rfl (⟨rfl, s1, rfl, k1.m34⟩)
    · refine ab_go ok_Mo_treaty 1 rfl ?_
      rw [show ab_tgt 0 [17, 27, 37] 45 2 = 37 from by decide]
      show ab_Z m_Mo_treaty _ _ _ 37 [_, _, _] [] _
      refine ab_go ok_Mo_treaty 2 rfl ?_
      show ab_Z m_Mo_treaty _ _ _ 39 [_, _, _] [_, _] _
      refine ab_cl ok_Mo_treaty rfl [_, _] [] rfl ⟨_, _, rfl, rfl, Or.inl ⟨_, _, rfl, rfl⟩⟩ (Nat.le_of_ble_eq_true rfl) (t_Mo_doesHold d fm X s1 T t hC1 hQ.1 hk) ?_
      rintro _ _ ⟨rfl, rfl⟩
      show ab_Z m_Mo_treaty _ _ _ 40 [_, _, _] [_] _
      have hA : trtA (vR T nc nd (s1 115)) k 2 = bB (heldB (vR T nc nd (s1 115)) k) := rfl
      rw [hA]
      cases heldB (vR T nc nd (s1 115)) k
      · refine ab_go ok_Mo_treaty 1 rfl ?_
        show ab_Z m_Mo_treaty _ _ _ 43 [_, _, _] [] _
        refine ab_go ok_Mo_treaty 1 rfl ?_
        show ab_Z m_Mo_treaty _ _ _ 44 [_, _, _] [_] _
        exact ab_rI ok_Mo_treaty rfl (⟨rfl, s1, rfl, k1.m34⟩)
      · refine ab_go ok_Mo_treaty 1 rfl ?_
        show ab_Z m_Mo_treaty _ _ _ 41 [_, _, _] [] _
        refine ab_go ok_Mo_treaty 2 rfl ?_
        show ab_Z m_Mo_treaty _ _ _ 44 [_, _, _] [_] _
        exact ab_rI ok_Mo_treaty rfl (⟨rfl, s1, rfl, k1.m34⟩)
    · refine ab_go ok_Mo_treaty 1 rfl ?_
      rw [ab_tgt_d (h)]
      show ab_Z m_Mo_treaty _ _ _ 45 [_, _, _] [] _
      refine ab_go ok_Mo_treaty 1 rfl ?_
      show ab_Z m_Mo_treaty _ _ _ 46 [_, _, _] [_] _
      have ho := out_n (n := 3) h
      exact ab_rI ok_Mo_treaty rfl (⟨by rw [trtA, if_neg (ho 0 (by decide) (by decide)), if_neg (ho 1 (by decide) (by decide)), if_neg (ho 2 (by decide) (by decide))], s1, rfl, k1.m34⟩)
theorem t_Mo_takes (hC : RC s lv T nc nd nt PT PG PB PF) (x y z : Int32) : ab_T g_Mo_takes (d + 3) (0, 0) [.ref 81, .int x, .int y, .int z] (HA fm X s t) (PR w4 (if inR nc x ∧ inR nd y ∧ inR 3 z then TV (vR T nc nd (s 114)) PT nd x.toNatClampNeg y.toNatClampNeg z.toNatClampNeg else -1) fm X s t) := by
  have hR := hC.1
  have h5 := hR.2.2.1.2
  have h6 := hR.2.2.2.1.2
  have no : ¬ (inR nc x ∧ inR nd y ∧ inR 3 z) → ab_Z m_Mo_takes (d + 3) (0, 0) (PR w4 (if inR nc x ∧ inR nd y ∧ inR 3 z then TV (vR T nc nd (s 114)) PT nd x.toNatClampNeg y.toNatClampNeg z.toNatClampNeg else -1) fm X s t) 11 [some (.ref 81), some (.int x), some (.int y), some (.int z)] [] (HA fm X s t) := by
    intro hn
    refine ab_go ok_Mo_takes 1 rfl ?_
    show ab_Z m_Mo_takes _ _ _ 12 [_, _, _, _] [_] _
    exact ab_rI ok_Mo_takes rfl (⟨by rw [if_neg hn], s, rfl, Kr.rf w4 s⟩)
  refine ab_T_of (M := m_Mo_takes) rfl rfl (Nat.le_of_ble_eq_true rfl) ?_
  show ab_Z m_Mo_takes _ _ _ 0 [_, _, _, _] [] _
  refine ab_go ok_Mo_takes 2 rfl ?_
  show ab_Z m_Mo_takes _ _ _ 2 [_, _, _, _] [_, _] _
  refine ab_cl ok_Mo_takes rfl [_, _] [] rfl ⟨_, _, rfl, rfl, Or.inl ⟨_, _, rfl, rfl⟩⟩ (Nat.le_of_ble_eq_true rfl) (t_Mo_isClerk (d + 1) fm X s T t hR x) ?_
  rintro _ _ ⟨rfl, rfl⟩
  show ab_Z m_Mo_takes _ _ _ 3 [_, _, _, _] [_] _
  refine ab_br ok_Mo_takes rfl rfl ?_ ?_
  · intro h1
    show ab_Z m_Mo_takes _ _ _ 11 [_, _, _, _] [] _
    exact no (fun q => bI_0.mp h1 q.1)
  · intro h1
    show ab_Z m_Mo_takes _ _ _ 4 [_, _, _, _] [] _
    refine ab_go ok_Mo_takes 2 rfl ?_
    show ab_Z m_Mo_takes _ _ _ 6 [_, _, _, _] [_, _] _
    refine ab_cl ok_Mo_takes rfl [_, _] [] rfl ⟨_, _, rfl, rfl, Or.inl ⟨_, _, rfl, rfl⟩⟩ (Nat.le_of_ble_eq_true rfl) (t_Mo_isDeed (d + 1) fm X s T t hR y) ?_
    rintro _ _ ⟨rfl, rfl⟩
    show ab_Z m_Mo_takes _ _ _ 7 [_, _, _, _] [_] _
    refine ab_br ok_Mo_takes rfl rfl ?_ ?_
    · intro h2
      show ab_Z m_Mo_takes _ _ _ 11 [_, _, _, _] [] _
      exact no (fun q => bI_0.mp h2 q.2.1)
    · intro h2
      show ab_Z m_Mo_takes _ _ _ 8 [_, _, _, _] [] _
      refine ab_go ok_Mo_takes 1 rfl ?_
      show ab_Z m_Mo_takes _ _ _ 9 [_, _, _, _] [_] _
      refine ab_cl ok_Mo_takes rfl [_] [] rfl rfl (Nat.le_of_ble_eq_true rfl) (t_Mo_isFeature (d + 1) _ z) ?_
      rintro _ _ ⟨rfl, rfl⟩
      show ab_Z m_Mo_takes _ _ _ 10 [_, _, _, _] [_] _
      refine ab_br ok_Mo_takes rfl rfl ?_ ?_
      · intro h3
        show ab_Z m_Mo_takes _ _ _ 11 [_, _, _, _] [] _
        exact no (fun q => bI_0.mp h3 q.2.2)
      · intro h3
        show ab_Z m_Mo_takes _ _ _ 13 [_, _, _, _] [] _
        rw [if_pos ⟨bI_n0 h1, bI_n0 h2, bI_n0 h3⟩]
        obtain ⟨c, hc, rfl⟩ := inR_nat (bI_n0 h1)
        obtain ⟨e, he, rfl⟩ := inR_nat (bI_n0 h2)
        obtain ⟨f, hf, rfl⟩ := inR_nat (bI_n0 h3)
        rw [nI_c (by omega), nI_c (by omega), nI_c (by omega)]
        refine ab_go ok_Mo_takes 1 rfl ?_
        show ab_Z m_Mo_takes _ _ _ 14 [_, _, _, _] [_] _
        refine ab_cl ok_Mo_takes rfl [_] [] rfl ⟨_, _, rfl, rfl, Or.inl ⟨_, _, rfl, rfl⟩⟩ (Nat.le_of_ble_eq_true rfl) (t_Mo_copies' (d + 2) fm X s T t hC) ?_
        rintro _ _ ⟨rfl, s1, rfl, k1, hC1, hv1, hl1, h40⟩
        show ab_Z m_Mo_takes _ _ _ 15 [_, _, _, _] [] _
        refine ab_go ok_Mo_takes 4 rfl ?_
        show ab_Z m_Mo_takes _ _ _ 19 [_, _, _, _] [_, _, _, _] _
        refine ab_cl ok_Mo_takes rfl [_, _, _, _] [] rfl ⟨_, _, rfl, rfl, Or.inl ⟨_, _, rfl, rfl⟩⟩ (Nat.le_of_ble_eq_true rfl) (t_Mo_takesOf d fm X s1 T t hC1 hc he hf) ?_
        rintro _ _ ⟨rfl, s2, rfl, k2⟩
        show ab_Z m_Mo_takes _ _ _ 20 [_, _, _, _] [_] _
        rw [hv1]
        exact ab_rI ok_Mo_takes rfl (⟨rfl, s2, rfl, k1.m34.tr k2.m14⟩)
end

