/-! the reference's face: count -/
theorem vR_lj {T : Nat → Nat → Int32} {nc nd : Nat} {r : Nat → Int32} {j : Nat} (h : j < 3 * nc) : vR T nc nd r 11 j = r j := by
  unfold vR
  rw [ab_ro_c, rwF, if_pos h]
theorem vR_pj {T : Nat → Nat → Int32} {nc nd : Nat} {r : Nat → Int32} {j : Nat} (h5 : nc ≤ 5) (h : j < 3 * nd) : vR T nc nd r 11 (15 + j) = r (21 + j) := by
  unfold vR
  rw [ab_ro_c, rwF, if_neg (by omega), if_pos (by omega)]
  congr 1; omega
section
variable (d : Nat) (fm : Value) (X : Nat × (Nat → Int32)) (s T : Nat → Nat → Int32) (t : Nat → Nat → Int64)
variable {lv nc nd nt : Nat} {PT PG PB PF : List (List Ins)}
theorem t_Mo_count (hC : RC s lv T nc nd nt PT PG PB PF) (hQ : QI (vR T nc nd (s 114)) nc nd nt) (hZ : ZI (s 114) nc nd) (h8 : s 81 2 = T 1 1) (h9 : s 81 56 = T 38 4) (h10 : s 81 63 = T 41 3) (h11 : (if s 127 0 = 0 then (0 : Int32) else 1) + (if s 127 1 = 0 then 0 else 1) + (if s 127 2 = 0 then 0 else 1) = bcF (T 38 2)) (w : Int32) : ab_T g_Mo_count (d + 5) (0, 0) [.ref 81, .int w] (HA fm X s t) (PR w4 (cntA (vR T nc nd (s 114)) nc nd nt PT PB PF w) fm X s t) := by
  have hlv := hC.1.2.1
  have h5 := hC.1.2.2.1.2
  have h6 := hC.1.2.2.2.1.2
  have ht := hC.1.2.2.2.2.1.2
  refine ab_T_of (M := m_Mo_count) rfl rfl (Nat.le_of_ble_eq_true rfl) ?_
  show ab_Z m_Mo_count _ _ _ 0 [_, _, _, _] [] _
  refine ab_go ok_Mo_count 1 rfl ?_
  show ab_Z m_Mo_count _ _ _ 1 [_, _, _, _] [_] _
  refine ab_cl ok_Mo_count rfl [_] [] rfl ⟨_, _, rfl, rfl, Or.inl ⟨_, _, rfl, rfl⟩⟩ (Nat.le_of_ble_eq_true rfl) (t_Mo_copies' (d + 4) fm X s T t hC) ?_
  rintro _ _ ⟨rfl, s1, rfl, k1, hC1, hv1, hl1, h40⟩
  show ab_Z m_Mo_count _ _ _ 2 [_, _, _, _] [] _
  have h114 : s1 114 = s 114 := k1.row (fun _ => rfl)
  obtain ⟨V, hV⟩ : ∃ V, V = vR T nc nd (s 114) := ⟨_, rfl⟩
  have hVo : ∀ x, x ≠ 11 → V x = T x := fun x hx => by rw [hV]; exact vR_o hx
  rw [← hV] at hv1 hQ ⊢
  refine ab_go ok_Mo_count 3 rfl ?_
  show ab_Z m_Mo_count _ _ _ 5 [_, _, _, _] [_] _
  rcases sw_16 w with (rfl | rfl | rfl | rfl | rfl | rfl | rfl | rfl | rfl | rfl | rfl | rfl | rfl | rfl | rfl | rfl) | h
  · refine ab_go ok_Mo_count 1 rfl ?_
    rw [show ab_tgt 0 [6, 12, 18, 24, 29, 33, 37, 40, 58, 61, 64, 67, 94, 99, 104, 131] 154 0 = 6 from by decide]
    show ab_Z m_Mo_count _ _ _ 6 [_, _, _, _] [] _
    refine ab_go ok_Mo_count 4 rfl ?_
    show ab_Z m_Mo_count _ _ _ 10 [_, _, _, _] [_, _] _
    rw [hC1.1.1]
    refine ab_ia ok_Mo_count rfl rfl (k := lv) (by first | rfl | (simp only [LL1, LL2, LL3, LL4, LL5, LL6, LL7, LL8, LL10, LL15, LL18, LL20, LL21, LL22, LL23, LL24, LL32, LL39, LL40, LL130, LL420, pk_mul, nI_add]; done) | (simp only [LL1, LL2, LL3, LL4, LL5, LL6, LL7, LL8, LL10, LL15, LL18, LL20, LL21, LL22, LL23, LL24, LL32, LL39, LL40, LL130, LL420, pk_mul, nI_add]; congr 1; omega)) (by omega) (Nat.le_of_ble_eq_true rfl) ?_
    show ab_Z m_Mo_count _ _ _ 11 [_, _, _, _] [_] _
    rw [hC1.1.2.2.1.1]
    exact ab_rI ok_Mo_count rfl (⟨rfl, s1, rfl, k1.m34⟩)
  · refine ab_go ok_Mo_count 1 rfl ?_
    rw [show ab_tgt 0 [6, 12, 18, 24, 29, 33, 37, 40, 58, 61, 64, 67, 94, 99, 104, 131] 154 1 = 12 from by decide]
    show ab_Z m_Mo_count _ _ _ 12 [_, _, _, _] [] _
    refine ab_go ok_Mo_count 4 rfl ?_
    show ab_Z m_Mo_count _ _ _ 16 [_, _, _, _] [_, _] _
    rw [hC1.1.1]
    refine ab_ia ok_Mo_count rfl rfl (k := lv) (by first | rfl | (simp only [LL1, LL2, LL3, LL4, LL5, LL6, LL7, LL8, LL10, LL15, LL18, LL20, LL21, LL22, LL23, LL24, LL32, LL39, LL40, LL130, LL420, pk_mul, nI_add]; done) | (simp only [LL1, LL2, LL3, LL4, LL5, LL6, LL7, LL8, LL10, LL15, LL18, LL20, LL21, LL22, LL23, LL24, LL32, LL39, LL40, LL130, LL420, pk_mul, nI_add]; congr 1; omega)) (by omega) (Nat.le_of_ble_eq_true rfl) ?_
    show ab_Z m_Mo_count _ _ _ 17 [_, _, _, _] [_] _
    rw [hC1.1.2.2.2.1.1]
    exact ab_rI ok_Mo_count rfl (⟨rfl, s1, rfl, k1.m34⟩)
  · refine ab_go ok_Mo_count 1 rfl ?_
    rw [show ab_tgt 0 [6, 12, 18, 24, 29, 33, 37, 40, 58, 61, 64, 67, 94, 99, 104, 131] 154 2 = 18 from by decide]
    show ab_Z m_Mo_count _ _ _ 18 [_, _, _, _] [] _
    refine ab_go ok_Mo_count 4 rfl ?_
    show ab_Z m_Mo_count _ _ _ 22 [_, _, _, _] [_, _] _
    rw [hC1.1.1]
    refine ab_ia ok_Mo_count rfl rfl (k := lv) (by first | rfl | (simp only [LL1, LL2, LL3, LL4, LL5, LL6, LL7, LL8, LL10, LL15, LL18, LL20, LL21, LL22, LL23, LL24, LL32, LL39, LL40, LL130, LL420, pk_mul, nI_add]; done) | (simp only [LL1, LL2, LL3, LL4, LL5, LL6, LL7, LL8, LL10, LL15, LL18, LL20, LL21, LL22, LL23, LL24, LL32, LL39, LL40, LL130, LL420, pk_mul, nI_add]; congr 1; omega)) (by omega) (Nat.le_of_ble_eq_true rfl) ?_
    show ab_Z m_Mo_count _ _ _ 23 [_, _, _, _] [_] _
    rw [hC1.1.2.2.2.2.1.1]
    exact ab_rI ok_Mo_count rfl (⟨rfl, s1, rfl, k1.m34⟩)
  · refine ab_go ok_Mo_count 1 rfl ?_
    rw [show ab_tgt 0 [6, 12, 18, 24, 29, 33, 37, 40, 58, 61, 64, 67, 94, 99, 104, 131] 154 3 = 24 from by decide]
    show ab_Z m_Mo_count _ _ _ 24 [_, _, _, _] [] _
    refine ab_go ok_Mo_count 3 rfl ?_
    show ab_Z m_Mo_count _ _ _ 27 [_, _, _, _] [_, _] _
    refine ab_go ok_Mo_count 1 rfl ?_
    show ab_Z m_Mo_count _ _ _ 28 [_, _, _, _] [_] _
    exact ab_rI ok_Mo_count rfl (⟨som (show s1 115 39 = V 11 39 from by rw [← hv1, vR_y h5 h6]), s1, rfl, k1.m34⟩)
  · refine ab_go ok_Mo_count 1 rfl ?_
    rw [show ab_tgt 0 [6, 12, 18, 24, 29, 33, 37, 40, 58, 61, 64, 67, 94, 99, 104, 131] 154 4 = 29 from by decide]
    show ab_Z m_Mo_count _ _ _ 29 [_, _, _, _] [] _
    refine ab_go ok_Mo_count 2 rfl ?_
    show ab_Z m_Mo_count _ _ _ 31 [_, _, _, _] [_, _] _
    refine ab_cl ok_Mo_count rfl [_, _] [] rfl ⟨_, _, rfl, rfl, Or.inl ⟨_, _, rfl, rfl⟩⟩ (Nat.le_of_ble_eq_true rfl) (t_Mo_inState (d + 4) fm X s1 T t hC1.1 (-2)) ?_
    rintro _ _ ⟨rfl, rfl⟩
    show ab_Z m_Mo_count _ _ _ 32 [_, _, _, _] [_] _
    rw [h114, ← hV]
    exact ab_rI ok_Mo_count rfl (⟨rfl, s1, rfl, k1.m34⟩)
  · refine ab_go ok_Mo_count 1 rfl ?_
    rw [show ab_tgt 0 [6, 12, 18, 24, 29, 33, 37, 40, 58, 61, 64, 67, 94, 99, 104, 131] 154 5 = 33 from by decide]
    show ab_Z m_Mo_count _ _ _ 33 [_, _, _, _] [] _
    refine ab_go ok_Mo_count 2 rfl ?_
    show ab_Z m_Mo_count _ _ _ 35 [_, _, _, _] [_, _] _
    refine ab_cl ok_Mo_count rfl [_, _] [] rfl ⟨_, _, rfl, rfl, Or.inl ⟨_, _, rfl, rfl⟩⟩ (Nat.le_of_ble_eq_true rfl) (t_Mo_inState (d + 4) fm X s1 T t hC1.1 (-3)) ?_
    rintro _ _ ⟨rfl, rfl⟩
    show ab_Z m_Mo_count _ _ _ 36 [_, _, _, _] [_] _
    rw [h114, ← hV]
    exact ab_rI ok_Mo_count rfl (⟨rfl, s1, rfl, k1.m34⟩)
  · refine ab_go ok_Mo_count 1 rfl ?_
    rw [show ab_tgt 0 [6, 12, 18, 24, 29, 33, 37, 40, 58, 61, 64, 67, 94, 99, 104, 131] 154 6 = 37 from by decide]
    show ab_Z m_Mo_count _ _ _ 37 [_, _, _, _] [] _
    refine ab_go ok_Mo_count 1 rfl ?_
    show ab_Z m_Mo_count _ _ _ 38 [_, _, _, _] [_] _
    refine ab_cl ok_Mo_count rfl [_] [] rfl ⟨_, _, rfl, rfl, Or.inl ⟨_, _, rfl, rfl⟩⟩ (Nat.le_of_ble_eq_true rfl) (t_Mo_bindsAll (d + 1) fm X s1 T t hC1 (by rw [hv1]; exact hQ.1)) ?_
    rintro _ _ ⟨rfl, s2, rfl, k2⟩
    show ab_Z m_Mo_count _ _ _ 39 [_, _, _, _] [_] _
    rw [hv1]
    exact ab_rI ok_Mo_count rfl (⟨rfl, s2, rfl, k1.m34.tr k2.m14⟩)
  · refine ab_go ok_Mo_count 1 rfl ?_
    rw [show ab_tgt 0 [6, 12, 18, 24, 29, 33, 37, 40, 58, 61, 64, 67, 94, 99, 104, 131] 154 7 = 40 from by decide]
    show ab_Z m_Mo_count _ _ _ 40 [_, _, _, _] [] _
    refine ab_go ok_Mo_count 2 rfl ?_
    show ab_Z m_Mo_count _ _ _ 42 [_, _, _, _] [] _
    refine lp_dn nt (fun k => ab_Z m_Mo_count (d + 5) (0, 0) (PR w4 (cntA V nc nd nt PT PB PF 7) fm X s t) 42 [some (.ref 81), none, some (.int (nI (cntN (heldB V) k))), some (.int (nI k))] [] (HA fm X s1 t)) ?_ ?_
    · refine ab_go ok_Mo_count 5 rfl ?_
      show ab_Z m_Mo_count _ _ _ 47 [_, _, _, _] [_, _, _] _
      rw [hC1.1.1]
      refine ab_ia ok_Mo_count rfl rfl (k := lv) (by first | rfl | (simp only [LL1, LL2, LL3, LL4, LL5, LL6, LL7, LL8, LL10, LL15, LL18, LL20, LL21, LL22, LL23, LL24, LL32, LL39, LL40, LL130, LL420, pk_mul, nI_add]; done) | (simp only [LL1, LL2, LL3, LL4, LL5, LL6, LL7, LL8, LL10, LL15, LL18, LL20, LL21, LL22, LL23, LL24, LL32, LL39, LL40, LL130, LL420, pk_mul, nI_add]; congr 1; omega)) (by omega) (Nat.le_of_ble_eq_true rfl) ?_
      show ab_Z m_Mo_count _ _ _ 48 [_, _, _, _] [_, _] _
      rw [hC1.1.2.2.2.2.1.1]
      refine ab_br ok_Mo_count rfl rfl ?_ ?_
      · intro h1
        show ab_Z m_Mo_count _ _ _ 56 [_, _, _, _] [] _
        refine ab_go ok_Mo_count 1 rfl ?_
        show ab_Z m_Mo_count _ _ _ 57 [_, _, _, _] [_] _
        exact ab_rI ok_Mo_count rfl (⟨rfl, s1, rfl, k1.m34⟩)
      · intro h1
        show ab_Z m_Mo_count _ _ _ 49 [_, _, _, _] [] _
        exact absurd (lp_out nt) h1
    · intro k hk ih
      rw [cntN, nI_succ k] at ih
      refine ab_go ok_Mo_count 5 rfl ?_
      show ab_Z m_Mo_count _ _ _ 47 [_, _, _, _] [_, _, _] _
      rw [hC1.1.1]
      refine ab_ia ok_Mo_count rfl rfl (k := lv) (by first | rfl | (simp only [LL1, LL2, LL3, LL4, LL5, LL6, LL7, LL8, LL10, LL15, LL18, LL20, LL21, LL22, LL23, LL24, LL32, LL39, LL40, LL130, LL420, pk_mul, nI_add]; done) | (simp only [LL1, LL2, LL3, LL4, LL5, LL6, LL7, LL8, LL10, LL15, LL18, LL20, LL21, LL22, LL23, LL24, LL32, LL39, LL40, LL130, LL420, pk_mul, nI_add]; congr 1; omega)) (by omega) (Nat.le_of_ble_eq_true rfl) ?_
      show ab_Z m_Mo_count _ _ _ 48 [_, _, _, _] [_, _] _
      rw [hC1.1.2.2.2.2.1.1]
      refine ab_br ok_Mo_count rfl rfl ?_ ?_
      · intro h1
        show ab_Z m_Mo_count _ _ _ 56 [_, _, _, _] [] _
        exact absurd h1 (lp_in (by omega) hk)
      · intro h1
        show ab_Z m_Mo_count _ _ _ 49 [_, _, _, _] [] _
        refine ab_go ok_Mo_count 2 rfl ?_
        show ab_Z m_Mo_count _ _ _ 51 [_, _, _, _] [_, _] _
        refine ab_cl ok_Mo_count rfl [_, _] [] rfl ⟨_, _, rfl, rfl, Or.inl ⟨_, _, rfl, rfl⟩⟩ (Nat.le_of_ble_eq_true rfl) (t_Mo_doesHold (d + 4) fm X s1 T t hC1 (by rw [hv1]; exact hQ.1) hk) ?_
        rintro _ _ ⟨rfl, rfl⟩
        show ab_Z m_Mo_count _ _ _ 52 [_, _, _, _] [_] _
        rw [hv1]
        refine ab_br ok_Mo_count rfl rfl ?_ ?_
        · intro h2
          show ab_Z m_Mo_count _ _ _ 54 [_, _, _, _] [] _
          refine ab_go ok_Mo_count 2 rfl ?_
          show ab_Z m_Mo_count _ _ _ 42 [_, _, _, _] [] _
          rw [bB_0.mp h2, if_neg (by decide), Nat.add_zero] at ih
          exact ih
        · intro h2
          show ab_Z m_Mo_count _ _ _ 53 [_, _, _, _] [] _
          refine ab_go ok_Mo_count 3 rfl ?_
          show ab_Z m_Mo_count _ _ _ 42 [_, _, _, _] [] _
          rw [bB_n0 h2, if_pos rfl, nI_succ] at ih
          exact ih
  · refine ab_go ok_Mo_count 1 rfl ?_
    rw [show ab_tgt 0 [6, 12, 18, 24, 29, 33, 37, 40, 58, 61, 64, 67, 94, 99, 104, 131] 154 8 = 58 from by decide]
    show ab_Z m_Mo_count _ _ _ 58 [_, _, _, _] [] _
    refine ab_go ok_Mo_count 2 rfl ?_
    show ab_Z m_Mo_count _ _ _ 60 [_, _, _, _] [_] _
    exact ab_rI ok_Mo_count rfl (⟨som (show s1 81 2 = V 1 1 from by rw [k1 81 2 rfl, h8, hVo 1 (by decide)]), s1, rfl, k1.m34⟩)
  · refine ab_go ok_Mo_count 1 rfl ?_
    rw [show ab_tgt 0 [6, 12, 18, 24, 29, 33, 37, 40, 58, 61, 64, 67, 94, 99, 104, 131] 154 9 = 61 from by decide]
    show ab_Z m_Mo_count _ _ _ 61 [_, _, _, _] [] _
    refine ab_go ok_Mo_count 2 rfl ?_
    show ab_Z m_Mo_count _ _ _ 63 [_, _, _, _] [_] _
    exact ab_rI ok_Mo_count rfl (⟨som (show s1 81 56 = V 38 4 from by rw [k1 81 56 rfl, h9, hVo 38 (by decide)]), s1, rfl, k1.m34⟩)
  · refine ab_go ok_Mo_count 1 rfl ?_
    rw [show ab_tgt 0 [6, 12, 18, 24, 29, 33, 37, 40, 58, 61, 64, 67, 94, 99, 104, 131] 154 10 = 64 from by decide]
    show ab_Z m_Mo_count _ _ _ 64 [_, _, _, _] [] _
    refine ab_go ok_Mo_count 2 rfl ?_
    show ab_Z m_Mo_count _ _ _ 66 [_, _, _, _] [_] _
    exact ab_rI ok_Mo_count rfl (⟨som (show s1 81 63 = V 41 3 from by rw [k1 81 63 rfl, h10, hVo 41 (by decide)]), s1, rfl, k1.m34⟩)
  · have hR : cntA V nc nd nt PT PB PF 11 = bcF (V 38 2) := rfl
    rw [hR, hVo 38 (by decide), ← h11, ← k1 127 0 rfl, ← k1 127 1 rfl, ← k1 127 2 rfl]
    have st3 : ∀ (x : Int32) (y : Int32), y = (if s1 127 0 = 0 then (0 : Int32) else 1) + (if s1 127 1 = 0 then 0 else 1) → ab_Z m_Mo_count (d + 5) (0, 0) (PR w4 ((if s1 127 0 = 0 then (0 : Int32) else 1) + (if s1 127 1 = 0 then 0 else 1) + (if s1 127 2 = 0 then 0 else 1)) fm X s t) 84 [some (.ref 81), some (.int 11), some (.int 0), none] [.int y] (HA fm X s1 t) := by
      intro x y hy
      refine ab_go ok_Mo_count 3 rfl ?_
      show ab_Z m_Mo_count _ _ _ 87 [_, _, _, _] [_, _, _] _
      refine ab_go ok_Mo_count 1 rfl ?_
      show ab_Z m_Mo_count _ _ _ 88 [_, _, _, _] [_, _] _
      refine ab_br ok_Mo_count rfl rfl ?_ ?_
      · intro g
        show ab_Z m_Mo_count _ _ _ 91 [_, _, _, _] [_] _
        refine ab_go ok_Mo_count 2 rfl ?_
        show ab_Z m_Mo_count _ _ _ 93 [_, _, _, _] [_] _
        exact ab_rI ok_Mo_count rfl (⟨som (by rw [if_pos (show s1 127 2 = 0 from g), hy]), s1, rfl, k1.m34⟩)
      · intro g
        show ab_Z m_Mo_count _ _ _ 89 [_, _, _, _] [_] _
        refine ab_go ok_Mo_count 3 rfl ?_
        show ab_Z m_Mo_count _ _ _ 93 [_, _, _, _] [_] _
        exact ab_rI ok_Mo_count rfl (⟨som (by rw [if_neg (show ¬ s1 127 2 = 0 from g), hy]), s1, rfl, k1.m34⟩)
    have st2 : ∀ y : Int32, y = (if s1 127 0 = 0 then (0 : Int32) else 1) → ab_Z m_Mo_count (d + 5) (0, 0) (PR w4 ((if s1 127 0 = 0 then (0 : Int32) else 1) + (if s1 127 1 = 0 then 0 else 1) + (if s1 127 2 = 0 then 0 else 1)) fm X s t) 75 [some (.ref 81), some (.int 11), some (.int 0), none] [.int y] (HA fm X s1 t) := by
      intro y hy
      refine ab_go ok_Mo_count 3 rfl ?_
      show ab_Z m_Mo_count _ _ _ 78 [_, _, _, _] [_, _, _] _
      refine ab_go ok_Mo_count 1 rfl ?_
      show ab_Z m_Mo_count _ _ _ 79 [_, _, _, _] [_, _] _
      refine ab_br ok_Mo_count rfl rfl ?_ ?_
      · intro g
        show ab_Z m_Mo_count _ _ _ 82 [_, _, _, _] [_] _
        refine ab_go ok_Mo_count 2 rfl ?_
        show ab_Z m_Mo_count _ _ _ 84 [_, _, _, _] [_] _
        exact st3 0 _ (by rw [if_pos (show s1 127 1 = 0 from g), hy])
      · intro g
        show ab_Z m_Mo_count _ _ _ 80 [_, _, _, _] [_] _
        refine ab_go ok_Mo_count 3 rfl ?_
        show ab_Z m_Mo_count _ _ _ 84 [_, _, _, _] [_] _
        exact st3 0 _ (by rw [if_neg (show ¬ s1 127 1 = 0 from g), hy])
    refine ab_go ok_Mo_count 1 rfl ?_
    rw [show ab_tgt 0 [6, 12, 18, 24, 29, 33, 37, 40, 58, 61, 64, 67, 94, 99, 104, 131] 154 11 = 67 from by decide]
    show ab_Z m_Mo_count _ _ _ 67 [_, _, _, _] [] _
    refine ab_go ok_Mo_count 3 rfl ?_
    show ab_Z m_Mo_count _ _ _ 70 [_, _, _, _] [_, _] _
    refine ab_go ok_Mo_count 1 rfl ?_
    show ab_Z m_Mo_count _ _ _ 71 [_, _, _, _] [_] _
    refine ab_br ok_Mo_count rfl rfl ?_ ?_
    · intro g
      show ab_Z m_Mo_count _ _ _ 74 [_, _, _, _] [] _
      refine ab_go ok_Mo_count 1 rfl ?_
      show ab_Z m_Mo_count _ _ _ 75 [_, _, _, _] [_] _
      exact st2 0 (by rw [if_pos (show s1 127 0 = 0 from g)])
    · intro g
      show ab_Z m_Mo_count _ _ _ 72 [_, _, _, _] [] _
      refine ab_go ok_Mo_count 2 rfl ?_
      show ab_Z m_Mo_count _ _ _ 75 [_, _, _, _] [_] _
      exact st2 1 (by rw [if_neg (show ¬ s1 127 0 = 0 from g)])
  · refine ab_go ok_Mo_count 1 rfl ?_
    rw [show ab_tgt 0 [6, 12, 18, 24, 29, 33, 37, 40, 58, 61, 64, 67, 94, 99, 104, 131] 154 12 = 94 from by decide]
    show ab_Z m_Mo_count _ _ _ 94 [_, _, _, _] [] _
    refine ab_go ok_Mo_count 3 rfl ?_
    show ab_Z m_Mo_count _ _ _ 97 [_, _, _, _] [_, _, _] _
    refine ab_cl ok_Mo_count rfl [_, _, _] [] rfl ⟨_, _, rfl, rfl, Or.inl ⟨_, _, rfl, rfl⟩⟩ (Nat.le_of_ble_eq_true rfl) (t_Mo_sumNow (d + 4) fm X s1 t (a := 0) (n := 15) (by decide) 0 15 rfl rfl) ?_
    rintro _ _ ⟨rfl, rfl⟩
    show ab_Z m_Mo_count _ _ _ 98 [_, _, _, _] [_] _
    have hs : sumV (fun j => s1 114 (0 + j)) 15 = sumV (fun c => sumV (fun f => V 11 (3 * c + f)) 3) nc := by
      rw [sumV_3 (V 11) nc, h114, sumV_cg (f := V 11) (g := s 114) (fun j hj => by rw [hV]; exact vR_lj hj), show (15 : Nat) = 3 * nc + (15 - 3 * nc) by omega, ← sumV_0 (f := s 114) (n := 3 * nc) (k := 15 - 3 * nc) (fun j a b => hZ j (Or.inl ⟨a, by omega⟩))]
      exact sumV_cg (fun j _ => by rw [Nat.zero_add])
    exact ab_rI ok_Mo_count rfl (⟨som hs, s1, rfl, k1.m34⟩)
  · refine ab_go ok_Mo_count 1 rfl ?_
    rw [show ab_tgt 0 [6, 12, 18, 24, 29, 33, 37, 40, 58, 61, 64, 67, 94, 99, 104, 131] 154 13 = 99 from by decide]
    show ab_Z m_Mo_count _ _ _ 99 [_, _, _, _] [] _
    refine ab_go ok_Mo_count 3 rfl ?_
    show ab_Z m_Mo_count _ _ _ 102 [_, _, _, _] [_, _, _] _
    refine ab_cl ok_Mo_count rfl [_, _, _] [] rfl ⟨_, _, rfl, rfl, Or.inl ⟨_, _, rfl, rfl⟩⟩ (Nat.le_of_ble_eq_true rfl) (t_Mo_sumNow (d + 4) fm X s1 t (a := 21) (n := 18) (by decide) 21 18 rfl rfl) ?_
    rintro _ _ ⟨rfl, rfl⟩
    show ab_Z m_Mo_count _ _ _ 103 [_, _, _, _] [_] _
    have hs : sumV (fun j => s1 114 (21 + j)) 18 = allP V nd := by
      rw [allP_3, h114, sumV_cg (f := fun j => V 11 (15 + j)) (g := fun j => s 114 (21 + j)) (fun j hj => by rw [hV]; exact vR_pj h5 hj), show (18 : Nat) = 3 * nd + (18 - 3 * nd) by omega]
      exact sumV_0 (fun j a b => hZ _ (Or.inr ⟨by omega, by omega⟩))
    exact ab_rI ok_Mo_count rfl (⟨som hs, s1, rfl, k1.m34⟩)
  · refine ab_go ok_Mo_count 1 rfl ?_
    rw [show ab_tgt 0 [6, 12, 18, 24, 29, 33, 37, 40, 58, 61, 64, 67, 94, 99, 104, 131] 154 14 = 104 from by decide]
    show ab_Z m_Mo_count _ _ _ 104 [_, _, _, _] [] _
    refine ab_go ok_Mo_count 2 rfl ?_
    show ab_Z m_Mo_count _ _ _ 106 [_, _, _, _] [] _
    refine lp_dn nd (fun k => ∀ s2, Kr w2 s1 s2 → ab_Z m_Mo_count (d + 5) (0, 0) (PR w4 (nI (bitsN (stuckB V PT nc nd) nd)) fm X s t) 106 [some (.ref 81), none, some (.int (nI (bitsN (stuckB V PT nc nd) k))), some (.int (nI k))] [] (HA fm X s2 t)) ?_ ?_ s1 (Kr.rf w2 s1)
    · intro s2 k2
      have hC2 := hC1.k k2.m24
      refine ab_go ok_Mo_count 5 rfl ?_
      show ab_Z m_Mo_count _ _ _ 111 [_, _, _, _] [_, _, _] _
      rw [hC2.1.1]
      refine ab_ia ok_Mo_count rfl rfl (k := lv) (by first | rfl | (simp only [LL1, LL2, LL3, LL4, LL5, LL6, LL7, LL8, LL10, LL15, LL18, LL20, LL21, LL22, LL23, LL24, LL32, LL39, LL40, LL130, LL420, pk_mul, nI_add]; done) | (simp only [LL1, LL2, LL3, LL4, LL5, LL6, LL7, LL8, LL10, LL15, LL18, LL20, LL21, LL22, LL23, LL24, LL32, LL39, LL40, LL130, LL420, pk_mul, nI_add]; congr 1; omega)) (by omega) (Nat.le_of_ble_eq_true rfl) ?_
      show ab_Z m_Mo_count _ _ _ 112 [_, _, _, _] [_, _] _
      rw [hC2.1.2.2.2.1.1]
      refine ab_br ok_Mo_count rfl rfl ?_ ?_
      · intro h1
        show ab_Z m_Mo_count _ _ _ 129 [_, _, _, _] [] _
        refine ab_go ok_Mo_count 1 rfl ?_
        show ab_Z m_Mo_count _ _ _ 130 [_, _, _, _] [_] _
        exact ab_rI ok_Mo_count rfl (⟨rfl, s2, rfl, k1.m34.tr k2.m24⟩)
      · intro h1
        show ab_Z m_Mo_count _ _ _ 113 [_, _, _, _] [] _
        exact absurd (lp_out nd) h1
    · intro k hk ih s2 k2
      have hC2 := hC1.k k2.m24
      refine ab_go ok_Mo_count 5 rfl ?_
      show ab_Z m_Mo_count _ _ _ 111 [_, _, _, _] [_, _, _] _
      rw [hC2.1.1]
      refine ab_ia ok_Mo_count rfl rfl (k := lv) (by first | rfl | (simp only [LL1, LL2, LL3, LL4, LL5, LL6, LL7, LL8, LL10, LL15, LL18, LL20, LL21, LL22, LL23, LL24, LL32, LL39, LL40, LL130, LL420, pk_mul, nI_add]; done) | (simp only [LL1, LL2, LL3, LL4, LL5, LL6, LL7, LL8, LL10, LL15, LL18, LL20, LL21, LL22, LL23, LL24, LL32, LL39, LL40, LL130, LL420, pk_mul, nI_add]; congr 1; omega)) (by omega) (Nat.le_of_ble_eq_true rfl) ?_
      show ab_Z m_Mo_count _ _ _ 112 [_, _, _, _] [_, _] _
      rw [hC2.1.2.2.2.1.1]
      refine ab_br ok_Mo_count rfl rfl ?_ ?_
      · intro h1
        show ab_Z m_Mo_count _ _ _ 129 [_, _, _, _] [] _
        exact absurd h1 (lp_in (by omega) hk)
      · intro h1
        show ab_Z m_Mo_count _ _ _ 113 [_, _, _, _] [] _
        refine ab_go ok_Mo_count 2 rfl ?_
        show ab_Z m_Mo_count _ _ _ 115 [_, _, _, _] [_, _] _
        refine ab_cl ok_Mo_count rfl [_, _] [] rfl ⟨_, _, rfl, rfl, Or.inl ⟨_, _, rfl, rfl⟩⟩ (Nat.le_of_ble_eq_true rfl) (t_Mo_isOpen' (d + 2) fm X s2 T t hC2.1 hk) ?_
        rintro _ _ ⟨rfl, rfl⟩
        show ab_Z m_Mo_count _ _ _ 116 [_, _, _, _] [_] _
        rw [k2.row (c := 114) (fun _ => rfl), h114, ← hV]
        refine ab_br ok_Mo_count rfl rfl ?_ ?_
        · intro h2
          show ab_Z m_Mo_count _ _ _ 127 [_, _, _, _] [] _
          refine ab_go ok_Mo_count 2 rfl ?_
          show ab_Z m_Mo_count _ _ _ 106 [_, _, _, _] [] _
          have ih2 := ih s2 k2
          rw [bitsN_no (stuckB V PT nc nd) (show stuckB V PT nc nd k = false from by unfold stuckB; rw [show decide (V 11 (33 + k) = -2) = false from bB_0.mp h2, Bool.false_and]), nI_succ] at ih2
          exact ih2
        · intro h2
          show ab_Z m_Mo_count _ _ _ 117 [_, _, _, _] [] _
          have ho : decide (V 11 (33 + k) = -2) = true := bB_n0 h2
          refine ab_go ok_Mo_count 2 rfl ?_
          show ab_Z m_Mo_count _ _ _ 119 [_, _, _, _] [_, _] _
          refine ab_cl ok_Mo_count rfl [_, _] [] rfl ⟨_, _, rfl, rfl, Or.inl ⟨_, _, rfl, rfl⟩⟩ (Nat.le_of_ble_eq_true rfl) (t_Mo_handsOf d fm X s2 T t hC2 hk) ?_
          rintro _ _ ⟨rfl, s3, rfl, k3⟩
          show ab_Z m_Mo_count _ _ _ 120 [_, _, _, _] [_] _
          rw [k2.row (c := 115) (fun _ => rfl), hv1]
          have hlt : bitsN (fun c => canB V PT nd c k) nc < 32 := Nat.lt_of_lt_of_le (bitsN_lt _ nc) (Nat.pow_le_pow_right (by decide) h5 : 2 ^ nc ≤ 2 ^ 5)
          have ih2 := ih s3 (k2.tr k3)
          refine ab_br ok_Mo_count rfl rfl ?_ ?_
          · intro h3
            show ab_Z m_Mo_count _ _ _ 121 [_, _, _, _] [] _
            refine ab_go ok_Mo_count 8 rfl ?_
            show ab_Z m_Mo_count _ _ _ 106 [_, _, _, _] [] _
            rw [bitsN_or (stuckB V PT nc nd) (by omega) (show stuckB V PT nc nd k = true from by unfold stuckB; rw [ho, decide_eq_true ((nI_z (by omega)).mp h3)]; rfl), ← nI_succ]
            exact ih2
          · intro h3
            show ab_Z m_Mo_count _ _ _ 127 [_, _, _, _] [] _
            refine ab_go ok_Mo_count 2 rfl ?_
            show ab_Z m_Mo_count _ _ _ 106 [_, _, _, _] [] _
            rw [bitsN_no (stuckB V PT nc nd) (show stuckB V PT nc nd k = false from by unfold stuckB; rw [decide_eq_false (fun z => h3 ((nI_z (by omega)).mpr z)), Bool.and_false]), nI_succ] at ih2
            exact ih2
  · refine ab_go ok_Mo_count 1 rfl ?_
    rw [show ab_tgt 0 [6, 12, 18, 24, 29, 33, 37, 40, 58, 61, 64, 67, 94, 99, 104, 131] 154 15 = 131 from by decide]
    show ab_Z m_Mo_count _ _ _ 131 [_, _, _, _] [] _
    refine ab_go ok_Mo_count 2 rfl ?_
    show ab_Z m_Mo_count _ _ _ 133 [_, _, _, _] [] _
    obtain ⟨p, hp⟩ : ∃ p : Nat → Bool, p = fun c => decide (bitsN (fun e => canB V PT nd c e) nd = 0) := ⟨_, rfl⟩
    rw [show cntA V nc nd nt PT PB PF 15 = nI (bitsN p nc) from by rw [hp]; rfl]
    refine lp_dn nc (fun k => ∀ s2, Kr w2 s1 s2 → ab_Z m_Mo_count (d + 5) (0, 0) (PR w4 (nI (bitsN p nc)) fm X s t) 133 [some (.ref 81), none, some (.int (nI (bitsN p k))), some (.int (nI k))] [] (HA fm X s2 t)) ?_ ?_ s1 (Kr.rf w2 s1)
    · intro s2 k2
      have hC2 := hC1.k k2.m24
      refine ab_go ok_Mo_count 5 rfl ?_
      show ab_Z m_Mo_count _ _ _ 138 [_, _, _, _] [_, _, _] _
      rw [hC2.1.1]
      refine ab_ia ok_Mo_count rfl rfl (k := lv) (by first | rfl | (simp only [LL1, LL2, LL3, LL4, LL5, LL6, LL7, LL8, LL10, LL15, LL18, LL20, LL21, LL22, LL23, LL24, LL32, LL39, LL40, LL130, LL420, pk_mul, nI_add]; done) | (simp only [LL1, LL2, LL3, LL4, LL5, LL6, LL7, LL8, LL10, LL15, LL18, LL20, LL21, LL22, LL23, LL24, LL32, LL39, LL40, LL130, LL420, pk_mul, nI_add]; congr 1; omega)) (by omega) (Nat.le_of_ble_eq_true rfl) ?_
      show ab_Z m_Mo_count _ _ _ 139 [_, _, _, _] [_, _] _
      rw [hC2.1.2.2.1.1]
      refine ab_br ok_Mo_count rfl rfl ?_ ?_
      · intro h1
        show ab_Z m_Mo_count _ _ _ 152 [_, _, _, _] [] _
        refine ab_go ok_Mo_count 1 rfl ?_
        show ab_Z m_Mo_count _ _ _ 153 [_, _, _, _] [_] _
        exact ab_rI ok_Mo_count rfl (⟨rfl, s2, rfl, k1.m34.tr k2.m24⟩)
      · intro h1
        show ab_Z m_Mo_count _ _ _ 140 [_, _, _, _] [] _
        exact absurd (lp_out nc) h1
    · intro k hk ih s2 k2
      have hC2 := hC1.k k2.m24
      refine ab_go ok_Mo_count 5 rfl ?_
      show ab_Z m_Mo_count _ _ _ 138 [_, _, _, _] [_, _, _] _
      rw [hC2.1.1]
      refine ab_ia ok_Mo_count rfl rfl (k := lv) (by first | rfl | (simp only [LL1, LL2, LL3, LL4, LL5, LL6, LL7, LL8, LL10, LL15, LL18, LL20, LL21, LL22, LL23, LL24, LL32, LL39, LL40, LL130, LL420, pk_mul, nI_add]; done) | (simp only [LL1, LL2, LL3, LL4, LL5, LL6, LL7, LL8, LL10, LL15, LL18, LL20, LL21, LL22, LL23, LL24, LL32, LL39, LL40, LL130, LL420, pk_mul, nI_add]; congr 1; omega)) (by omega) (Nat.le_of_ble_eq_true rfl) ?_
      show ab_Z m_Mo_count _ _ _ 139 [_, _, _, _] [_, _] _
      rw [hC2.1.2.2.1.1]
      refine ab_br ok_Mo_count rfl rfl ?_ ?_
      · intro h1
        show ab_Z m_Mo_count _ _ _ 152 [_, _, _, _] [] _
        exact absurd h1 (lp_in (by omega) hk)
      · intro h1
        show ab_Z m_Mo_count _ _ _ 140 [_, _, _, _] [] _
        refine ab_go ok_Mo_count 2 rfl ?_
        show ab_Z m_Mo_count _ _ _ 142 [_, _, _, _] [_, _] _
        refine ab_cl ok_Mo_count rfl [_, _] [] rfl ⟨_, _, rfl, rfl, Or.inl ⟨_, _, rfl, rfl⟩⟩ (Nat.le_of_ble_eq_true rfl) (t_Mo_workOf d fm X s2 T t hC2 hk) ?_
        rintro _ _ ⟨rfl, s3, rfl, k3⟩
        show ab_Z m_Mo_count _ _ _ 143 [_, _, _, _] [_] _
        rw [k2.row (c := 115) (fun _ => rfl), hv1]
        have hlt : bitsN (fun e => canB V PT nd k e) nd < 64 := Nat.lt_of_lt_of_le (bitsN_lt _ nd) (Nat.pow_le_pow_right (by decide) h6 : 2 ^ nd ≤ 2 ^ 6)
        have ih2 := ih s3 (k2.tr k3)
        refine ab_br ok_Mo_count rfl rfl ?_ ?_
        · intro h3
          show ab_Z m_Mo_count _ _ _ 144 [_, _, _, _] [] _
          refine ab_go ok_Mo_count 8 rfl ?_
          show ab_Z m_Mo_count _ _ _ 133 [_, _, _, _] [] _
          rw [bitsN_or p (by omega) (show p k = true from by rw [hp]; exact decide_eq_true ((nI_z (by omega)).mp h3)), ← nI_succ]
          exact ih2
        · intro h3
          show ab_Z m_Mo_count _ _ _ 150 [_, _, _, _] [] _
          refine ab_go ok_Mo_count 2 rfl ?_
          show ab_Z m_Mo_count _ _ _ 133 [_, _, _, _] [] _
          rw [bitsN_no p (show p k = false from by rw [hp]; exact decide_eq_false (fun z => h3 ((nI_z (by omega)).mpr z))), nI_succ] at ih2
          exact ih2
  · refine ab_go ok_Mo_count 1 rfl ?_
    rw [ab_tgt_d (h)]
    show ab_Z m_Mo_count _ _ _ 154 [_, _, _, _] [] _
    refine ab_go ok_Mo_count 1 rfl ?_
    show ab_Z m_Mo_count _ _ _ 155 [_, _, _, _] [_] _
    have ho := out_n (n := 16) h
    exact ab_rI ok_Mo_count rfl (⟨by rw [cntA, if_neg (ho 0 (by decide) (by decide)), if_neg (ho 1 (by decide) (by decide)), if_neg (ho 2 (by decide) (by decide)), if_neg (ho 3 (by decide) (by decide)), if_neg (ho 4 (by decide) (by decide)), if_neg (ho 5 (by decide) (by decide)), if_neg (ho 6 (by decide) (by decide)), if_neg (ho 7 (by decide) (by decide)), if_neg (ho 8 (by decide) (by decide)), if_neg (ho 9 (by decide) (by decide)), if_neg (ho 10 (by decide) (by decide)), if_neg (ho 11 (by decide) (by decide)), if_neg (ho 12 (by decide) (by decide)), if_neg (ho 13 (by decide) (by decide)), if_neg (ho 14 (by decide) (by decide)), if_neg (ho 15 (by decide) (by decide))], s1, rfl, k1.m34⟩)
end

