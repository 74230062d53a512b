/-! the law: cases 20 .. 30 (written by gen_law.py) -/
section
variable {i L : Nat} {xs : Nat → Int32} {fm : Value} {s : Nat → Nat → Int32} {t : Nat → Nat → Int64} {b : Bool} {Po : Option Value → ab_H → Prop}
set_option maxRecDepth 8192 in
theorem lw_game (hi : 6 * i + 6 ≤ L) (hL : L ≤ 3072) (h : INV i s t) (nx : ∀ b s t, INV (i + 1) s t → ab_Z m_Lw_law 27 (0, 0) Po 927 [some (.ref 9001), some (.ref 0), some (.ref 81), some (.int (nI (6 * i)))] [] (hq b fm (L, xs) s t)) : ab_Z m_Lw_law 27 (0, 0) Po 432 [some (.ref 9001), some (.ref 0), some (.ref 81), some (.int (nI (6 * i)))] [] (hq b fm (L, xs) s t) := by
  obtain ⟨S, T, RO, e1⟩ := hq_t b fm (L, xs) s t
  have k1 := ab_T_ei rfl (p_game (L, xs) h (xs (6 * i + 1))) b fm
  rw [e1] at k1 ⊢
  refine ab_go ok_Lw_law 5 rfl ?_
  show ab_Z m_Lw_law _ _ _ 437 [_, _, _, _] [_, _, _] _
  refine ab_sx ok_Lw_law rfl (k := 6 * i + 1) (by rw [show (1 : Int32) = nI 1 from rfl, nI_add]) (by omega) (by omega) rfl ?_
  show ab_Z m_Lw_law _ _ _ 438 [_, _, _, _] [_, _] _
  refine ab_cl ok_Lw_law rfl [_, _] [] rfl ⟨_, _, rfl, rfl, Or.inl ⟨_, _, rfl, rfl⟩⟩ (Nat.le_of_ble_eq_true rfl) k1 ?_
  rintro _ _ ⟨r, s1, t1, e, rfl, rfl, k2⟩
  obtain ⟨S1, T1, RO1, e2⟩ := hq_t (b ^^ e) fm (L, xs) s1 t1
  have k3 := ab_T_ei rfl k2 (b ^^ e) fm
  rw [e2] at k3 ⊢
  show ab_Z m_Lw_law _ _ _ 439 [_, _, _, _] [_] _
  refine ab_go ok_Lw_law 5 rfl ?_
  show ab_Z m_Lw_law _ _ _ 444 [_, _, _, _] [_, _, _, _] _
  refine ab_sx ok_Lw_law rfl (k := 6 * i + 1) (by rw [show (1 : Int32) = nI 1 from rfl, nI_add]) (by omega) (by omega) rfl ?_
  show ab_Z m_Lw_law _ _ _ 445 [_, _, _, _] [_, _, _] _
  refine ab_cl ok_Lw_law rfl [_, _] [_] rfl ⟨_, _, rfl, rfl, Or.inl ⟨_, _, rfl, rfl⟩⟩ (Nat.le_of_ble_eq_true rfl) k3 ?_
  rintro _ _ ⟨r2, s2, t2, f, rfl, rfl, rfl, rfl, hI⟩
  show ab_Z m_Lw_law _ _ _ 446 [_, _, _, _] [_, _] _
  refine ab_br ok_Lw_law rfl rfl ?_ ?_
  · intro h9
    show ab_Z m_Lw_law _ _ _ 927 [_, _, _, _] [] _
    exact nx _ _ _ hI
  · intro h9
    show ab_Z m_Lw_law _ _ _ 447 [_, _, _, _] [] _
    exact absurd rfl h9
set_option maxRecDepth 8192 in
theorem lw_breaks (hi : 6 * i + 6 ≤ L) (hL : L ≤ 3072) (h : INV i s t) (nx : ∀ b s t, INV (i + 1) s t → ab_Z m_Lw_law 27 (0, 0) Po 927 [some (.ref 9001), some (.ref 0), some (.ref 81), some (.int (nI (6 * i)))] [] (hq b fm (L, xs) s t)) : ab_Z m_Lw_law 27 (0, 0) Po 449 [some (.ref 9001), some (.ref 0), some (.ref 81), some (.int (nI (6 * i)))] [] (hq b fm (L, xs) s t) := by
  obtain ⟨S, T, RO, e1⟩ := hq_t b fm (L, xs) s t
  have k1 := ab_T_ei rfl (p_breaks (L, xs) h (xs (6 * i + 1))) b fm
  rw [e1] at k1 ⊢
  refine ab_go ok_Lw_law 5 rfl ?_
  show ab_Z m_Lw_law _ _ _ 454 [_, _, _, _] [_, _, _] _
  refine ab_sx ok_Lw_law rfl (k := 6 * i + 1) (by rw [show (1 : Int32) = nI 1 from rfl, nI_add]) (by omega) (by omega) rfl ?_
  show ab_Z m_Lw_law _ _ _ 455 [_, _, _, _] [_, _] _
  refine ab_cl ok_Lw_law rfl [_, _] [] rfl ⟨_, _, rfl, rfl, Or.inl ⟨_, _, rfl, rfl⟩⟩ (Nat.le_of_ble_eq_true rfl) k1 ?_
  rintro _ _ ⟨r, s1, t1, e, rfl, rfl, k2⟩
  obtain ⟨S1, T1, RO1, e2⟩ := hq_t (b ^^ e) fm (L, xs) s1 t1
  have k3 := ab_T_ei rfl k2 (b ^^ e) fm
  rw [e2] at k3 ⊢
  show ab_Z m_Lw_law _ _ _ 456 [_, _, _, _] [_] _
  refine ab_go ok_Lw_law 5 rfl ?_
  show ab_Z m_Lw_law _ _ _ 461 [_, _, _, _] [_, _, _, _] _
  refine ab_sx ok_Lw_law rfl (k := 6 * i + 1) (by rw [show (1 : Int32) = nI 1 from rfl, nI_add]) (by omega) (by omega) rfl ?_
  show ab_Z m_Lw_law _ _ _ 462 [_, _, _, _] [_, _, _] _
  refine ab_cl ok_Lw_law rfl [_, _] [_] rfl ⟨_, _, rfl, rfl, Or.inl ⟨_, _, rfl, rfl⟩⟩ (Nat.le_of_ble_eq_true rfl) k3 ?_
  rintro _ _ ⟨r2, s2, t2, f, rfl, rfl, rfl, rfl, hI⟩
  show ab_Z m_Lw_law _ _ _ 463 [_, _, _, _] [_, _] _
  refine ab_br ok_Lw_law rfl rfl ?_ ?_
  · intro h9
    show ab_Z m_Lw_law _ _ _ 927 [_, _, _, _] [] _
    exact nx _ _ _ hI
  · intro h9
    show ab_Z m_Lw_law _ _ _ 464 [_, _, _, _] [] _
    exact absurd rfl h9
set_option maxRecDepth 8192 in
theorem lw_lent (hi : 6 * i + 6 ≤ L) (hL : L ≤ 3072) (h : INV i s t) (nx : ∀ b s t, INV (i + 1) s t → ab_Z m_Lw_law 27 (0, 0) Po 927 [some (.ref 9001), some (.ref 0), some (.ref 81), some (.int (nI (6 * i)))] [] (hq b fm (L, xs) s t)) : ab_Z m_Lw_law 27 (0, 0) Po 466 [some (.ref 9001), some (.ref 0), some (.ref 81), some (.int (nI (6 * i)))] [] (hq b fm (L, xs) s t) := by
  obtain ⟨S, T, RO, e1⟩ := hq_t b fm (L, xs) s t
  have k1 := ab_T_ei rfl (p_lent (L, xs) h (xs (6 * i + 1)) (xs (6 * i + 2))) b fm
  rw [e1] at k1 ⊢
  refine ab_go ok_Lw_law 5 rfl ?_
  show ab_Z m_Lw_law _ _ _ 471 [_, _, _, _] [_, _, _] _
  refine ab_sx ok_Lw_law rfl (k := 6 * i + 1) (by rw [show (1 : Int32) = nI 1 from rfl, nI_add]) (by omega) (by omega) rfl ?_
  show ab_Z m_Lw_law _ _ _ 472 [_, _, _, _] [_, _] _
  refine ab_go ok_Lw_law 4 rfl ?_
  show ab_Z m_Lw_law _ _ _ 476 [_, _, _, _] [_, _, _, _] _
  refine ab_sx ok_Lw_law rfl (k := 6 * i + 2) (by rw [show (2 : Int32) = nI 2 from rfl, nI_add]) (by omega) (by omega) rfl ?_
  show ab_Z m_Lw_law _ _ _ 477 [_, _, _, _] [_, _, _] _
  refine ab_cl ok_Lw_law rfl [_, _, _] [] rfl ⟨_, _, rfl, rfl, Or.inl ⟨_, _, rfl, rfl⟩⟩ (Nat.le_of_ble_eq_true rfl) k1 ?_
  rintro _ _ ⟨r, s1, t1, e, rfl, rfl, k2⟩
  obtain ⟨S1, T1, RO1, e2⟩ := hq_t (b ^^ e) fm (L, xs) s1 t1
  have k3 := ab_T_ei rfl k2 (b ^^ e) fm
  rw [e2] at k3 ⊢
  show ab_Z m_Lw_law _ _ _ 478 [_, _, _, _] [_] _
  refine ab_go ok_Lw_law 5 rfl ?_
  show ab_Z m_Lw_law _ _ _ 483 [_, _, _, _] [_, _, _, _] _
  refine ab_sx ok_Lw_law rfl (k := 6 * i + 1) (by rw [show (1 : Int32) = nI 1 from rfl, nI_add]) (by omega) (by omega) rfl ?_
  show ab_Z m_Lw_law _ _ _ 484 [_, _, _, _] [_, _, _] _
  refine ab_go ok_Lw_law 4 rfl ?_
  show ab_Z m_Lw_law _ _ _ 488 [_, _, _, _] [_, _, _, _, _] _
  refine ab_sx ok_Lw_law rfl (k := 6 * i + 2) (by rw [show (2 : Int32) = nI 2 from rfl, nI_add]) (by omega) (by omega) rfl ?_
  show ab_Z m_Lw_law _ _ _ 489 [_, _, _, _] [_, _, _, _] _
  refine ab_cl ok_Lw_law rfl [_, _, _] [_] rfl ⟨_, _, rfl, rfl, Or.inl ⟨_, _, rfl, rfl⟩⟩ (Nat.le_of_ble_eq_true rfl) k3 ?_
  rintro _ _ ⟨r2, s2, t2, f, rfl, rfl, rfl, rfl, hI⟩
  show ab_Z m_Lw_law _ _ _ 490 [_, _, _, _] [_, _] _
  refine ab_br ok_Lw_law rfl rfl ?_ ?_
  · intro h9
    show ab_Z m_Lw_law _ _ _ 927 [_, _, _, _] [] _
    exact nx _ _ _ hI
  · intro h9
    show ab_Z m_Lw_law _ _ _ 491 [_, _, _, _] [] _
    exact absurd rfl h9
set_option maxRecDepth 8192 in
theorem lw_apart (hi : 6 * i + 6 ≤ L) (hL : L ≤ 3072) (h : INV i s t) (nx : ∀ b s t, INV (i + 1) s t → ab_Z m_Lw_law 27 (0, 0) Po 927 [some (.ref 9001), some (.ref 0), some (.ref 81), some (.int (nI (6 * i)))] [] (hq b fm (L, xs) s t)) : ab_Z m_Lw_law 27 (0, 0) Po 493 [some (.ref 9001), some (.ref 0), some (.ref 81), some (.int (nI (6 * i)))] [] (hq b fm (L, xs) s t) := by
  obtain ⟨S, T, RO, e1⟩ := hq_t b fm (L, xs) s t
  have k1 := ab_T_ei rfl (p_apart (L, xs) h (xs (6 * i + 1)) (xs (6 * i + 2))) b fm
  rw [e1] at k1 ⊢
  refine ab_go ok_Lw_law 5 rfl ?_
  show ab_Z m_Lw_law _ _ _ 498 [_, _, _, _] [_, _, _] _
  refine ab_sx ok_Lw_law rfl (k := 6 * i + 1) (by rw [show (1 : Int32) = nI 1 from rfl, nI_add]) (by omega) (by omega) rfl ?_
  show ab_Z m_Lw_law _ _ _ 499 [_, _, _, _] [_, _] _
  refine ab_go ok_Lw_law 4 rfl ?_
  show ab_Z m_Lw_law _ _ _ 503 [_, _, _, _] [_, _, _, _] _
  refine ab_sx ok_Lw_law rfl (k := 6 * i + 2) (by rw [show (2 : Int32) = nI 2 from rfl, nI_add]) (by omega) (by omega) rfl ?_
  show ab_Z m_Lw_law _ _ _ 504 [_, _, _, _] [_, _, _] _
  refine ab_cl ok_Lw_law rfl [_, _, _] [] rfl ⟨_, _, rfl, rfl, Or.inl ⟨_, _, rfl, rfl⟩⟩ (Nat.le_of_ble_eq_true rfl) k1 ?_
  rintro _ _ ⟨r, s1, t1, e, rfl, rfl, k2⟩
  obtain ⟨S1, T1, RO1, e2⟩ := hq_t (b ^^ e) fm (L, xs) s1 t1
  have k3 := ab_T_ei rfl k2 (b ^^ e) fm
  rw [e2] at k3 ⊢
  show ab_Z m_Lw_law _ _ _ 505 [_, _, _, _] [_] _
  refine ab_go ok_Lw_law 5 rfl ?_
  show ab_Z m_Lw_law _ _ _ 510 [_, _, _, _] [_, _, _, _] _
  refine ab_sx ok_Lw_law rfl (k := 6 * i + 1) (by rw [show (1 : Int32) = nI 1 from rfl, nI_add]) (by omega) (by omega) rfl ?_
  show ab_Z m_Lw_law _ _ _ 511 [_, _, _, _] [_, _, _] _
  refine ab_go ok_Lw_law 4 rfl ?_
  show ab_Z m_Lw_law _ _ _ 515 [_, _, _, _] [_, _, _, _, _] _
  refine ab_sx ok_Lw_law rfl (k := 6 * i + 2) (by rw [show (2 : Int32) = nI 2 from rfl, nI_add]) (by omega) (by omega) rfl ?_
  show ab_Z m_Lw_law _ _ _ 516 [_, _, _, _] [_, _, _, _] _
  refine ab_cl ok_Lw_law rfl [_, _, _] [_] rfl ⟨_, _, rfl, rfl, Or.inl ⟨_, _, rfl, rfl⟩⟩ (Nat.le_of_ble_eq_true rfl) k3 ?_
  rintro _ _ ⟨r2, s2, t2, f, rfl, rfl, rfl, rfl, hI⟩
  show ab_Z m_Lw_law _ _ _ 517 [_, _, _, _] [_, _] _
  refine ab_br ok_Lw_law rfl rfl ?_ ?_
  · intro h9
    show ab_Z m_Lw_law _ _ _ 927 [_, _, _, _] [] _
    exact nx _ _ _ hI
  · intro h9
    show ab_Z m_Lw_law _ _ _ 518 [_, _, _, _] [] _
    exact absurd rfl h9
set_option maxRecDepth 8192 in
theorem lw_like (hi : 6 * i + 6 ≤ L) (hL : L ≤ 3072) (h : INV i s t) (nx : ∀ b s t, INV (i + 1) s t → ab_Z m_Lw_law 27 (0, 0) Po 927 [some (.ref 9001), some (.ref 0), some (.ref 81), some (.int (nI (6 * i)))] [] (hq b fm (L, xs) s t)) : ab_Z m_Lw_law 27 (0, 0) Po 520 [some (.ref 9001), some (.ref 0), some (.ref 81), some (.int (nI (6 * i)))] [] (hq b fm (L, xs) s t) := by
  obtain ⟨S, T, RO, e1⟩ := hq_t b fm (L, xs) s t
  have k1 := ab_T_ei rfl (p_like (L, xs) h (xs (6 * i + 1))) b fm
  rw [e1] at k1 ⊢
  refine ab_go ok_Lw_law 5 rfl ?_
  show ab_Z m_Lw_law _ _ _ 525 [_, _, _, _] [_, _, _] _
  refine ab_sx ok_Lw_law rfl (k := 6 * i + 1) (by rw [show (1 : Int32) = nI 1 from rfl, nI_add]) (by omega) (by omega) rfl ?_
  show ab_Z m_Lw_law _ _ _ 526 [_, _, _, _] [_, _] _
  refine ab_cl ok_Lw_law rfl [_, _] [] rfl ⟨_, _, rfl, rfl, Or.inl ⟨_, _, rfl, rfl⟩⟩ (Nat.le_of_ble_eq_true rfl) k1 ?_
  rintro _ _ ⟨r, s1, t1, e, rfl, rfl, k2⟩
  obtain ⟨S1, T1, RO1, e2⟩ := hq_t (b ^^ e) fm (L, xs) s1 t1
  have k3 := ab_T_ei rfl k2 (b ^^ e) fm
  rw [e2] at k3 ⊢
  show ab_Z m_Lw_law _ _ _ 527 [_, _, _, _] [_] _
  refine ab_go ok_Lw_law 5 rfl ?_
  show ab_Z m_Lw_law _ _ _ 532 [_, _, _, _] [_, _, _, _] _
  refine ab_sx ok_Lw_law rfl (k := 6 * i + 1) (by rw [show (1 : Int32) = nI 1 from rfl, nI_add]) (by omega) (by omega) rfl ?_
  show ab_Z m_Lw_law _ _ _ 533 [_, _, _, _] [_, _, _] _
  refine ab_cl ok_Lw_law rfl [_, _] [_] rfl ⟨_, _, rfl, rfl, Or.inl ⟨_, _, rfl, rfl⟩⟩ (Nat.le_of_ble_eq_true rfl) k3 ?_
  rintro _ _ ⟨r2, s2, t2, f, rfl, rfl, rfl, rfl, hI⟩
  show ab_Z m_Lw_law _ _ _ 534 [_, _, _, _] [_, _] _
  refine ab_br ok_Lw_law rfl rfl ?_ ?_
  · intro h9
    show ab_Z m_Lw_law _ _ _ 927 [_, _, _, _] [] _
    exact nx _ _ _ hI
  · intro h9
    show ab_Z m_Lw_law _ _ _ 535 [_, _, _, _] [] _
    exact absurd rfl h9
set_option maxRecDepth 8192 in
theorem lw_twins (hi : 6 * i + 6 ≤ L) (hL : L ≤ 3072) (h : INV i s t) (nx : ∀ b s t, INV (i + 1) s t → ab_Z m_Lw_law 27 (0, 0) Po 927 [some (.ref 9001), some (.ref 0), some (.ref 81), some (.int (nI (6 * i)))] [] (hq b fm (L, xs) s t)) : ab_Z m_Lw_law 27 (0, 0) Po 537 [some (.ref 9001), some (.ref 0), some (.ref 81), some (.int (nI (6 * i)))] [] (hq b fm (L, xs) s t) := by
  obtain ⟨S, T, RO, e1⟩ := hq_t b fm (L, xs) s t
  have k1 := ab_T_ei rfl (p_twins (L, xs) h (xs (6 * i + 1)) (xs (6 * i + 2))) b fm
  rw [e1] at k1 ⊢
  refine ab_go ok_Lw_law 5 rfl ?_
  show ab_Z m_Lw_law _ _ _ 542 [_, _, _, _] [_, _, _] _
  refine ab_sx ok_Lw_law rfl (k := 6 * i + 1) (by rw [show (1 : Int32) = nI 1 from rfl, nI_add]) (by omega) (by omega) rfl ?_
  show ab_Z m_Lw_law _ _ _ 543 [_, _, _, _] [_, _] _
  refine ab_go ok_Lw_law 4 rfl ?_
  show ab_Z m_Lw_law _ _ _ 547 [_, _, _, _] [_, _, _, _] _
  refine ab_sx ok_Lw_law rfl (k := 6 * i + 2) (by rw [show (2 : Int32) = nI 2 from rfl, nI_add]) (by omega) (by omega) rfl ?_
  show ab_Z m_Lw_law _ _ _ 548 [_, _, _, _] [_, _, _] _
  refine ab_cl ok_Lw_law rfl [_, _, _] [] rfl ⟨_, _, rfl, rfl, Or.inl ⟨_, _, rfl, rfl⟩⟩ (Nat.le_of_ble_eq_true rfl) k1 ?_
  rintro _ _ ⟨r, s1, t1, e, rfl, rfl, k2⟩
  obtain ⟨S1, T1, RO1, e2⟩ := hq_t (b ^^ e) fm (L, xs) s1 t1
  have k3 := ab_T_ei rfl k2 (b ^^ e) fm
  rw [e2] at k3 ⊢
  show ab_Z m_Lw_law _ _ _ 549 [_, _, _, _] [_] _
  refine ab_go ok_Lw_law 5 rfl ?_
  show ab_Z m_Lw_law _ _ _ 554 [_, _, _, _] [_, _, _, _] _
  refine ab_sx ok_Lw_law rfl (k := 6 * i + 1) (by rw [show (1 : Int32) = nI 1 from rfl, nI_add]) (by omega) (by omega) rfl ?_
  show ab_Z m_Lw_law _ _ _ 555 [_, _, _, _] [_, _, _] _
  refine ab_go ok_Lw_law 4 rfl ?_
  show ab_Z m_Lw_law _ _ _ 559 [_, _, _, _] [_, _, _, _, _] _
  refine ab_sx ok_Lw_law rfl (k := 6 * i + 2) (by rw [show (2 : Int32) = nI 2 from rfl, nI_add]) (by omega) (by omega) rfl ?_
  show ab_Z m_Lw_law _ _ _ 560 [_, _, _, _] [_, _, _, _] _
  refine ab_cl ok_Lw_law rfl [_, _, _] [_] rfl ⟨_, _, rfl, rfl, Or.inl ⟨_, _, rfl, rfl⟩⟩ (Nat.le_of_ble_eq_true rfl) k3 ?_
  rintro _ _ ⟨r2, s2, t2, f, rfl, rfl, rfl, rfl, hI⟩
  show ab_Z m_Lw_law _ _ _ 561 [_, _, _, _] [_, _] _
  refine ab_br ok_Lw_law rfl rfl ?_ ?_
  · intro h9
    show ab_Z m_Lw_law _ _ _ 927 [_, _, _, _] [] _
    exact nx _ _ _ hI
  · intro h9
    show ab_Z m_Lw_law _ _ _ 562 [_, _, _, _] [] _
    exact absurd rfl h9
set_option maxRecDepth 8192 in
theorem lw_heals (hi : 6 * i + 6 ≤ L) (hL : L ≤ 3072) (h : INV i s t) (nx : ∀ b s t, INV (i + 1) s t → ab_Z m_Lw_law 27 (0, 0) Po 927 [some (.ref 9001), some (.ref 0), some (.ref 81), some (.int (nI (6 * i)))] [] (hq b fm (L, xs) s t)) : ab_Z m_Lw_law 27 (0, 0) Po 564 [some (.ref 9001), some (.ref 0), some (.ref 81), some (.int (nI (6 * i)))] [] (hq b fm (L, xs) s t) := by
  obtain ⟨S, T, RO, e1⟩ := hq_t b fm (L, xs) s t
  have k1 := ab_T_ei rfl (p_heals (L, xs) h (xs (6 * i + 1))) b fm
  rw [e1] at k1 ⊢
  refine ab_go ok_Lw_law 5 rfl ?_
  show ab_Z m_Lw_law _ _ _ 569 [_, _, _, _] [_, _, _] _
  refine ab_sx ok_Lw_law rfl (k := 6 * i + 1) (by rw [show (1 : Int32) = nI 1 from rfl, nI_add]) (by omega) (by omega) rfl ?_
  show ab_Z m_Lw_law _ _ _ 570 [_, _, _, _] [_, _] _
  refine ab_cl ok_Lw_law rfl [_, _] [] rfl ⟨_, _, rfl, rfl, Or.inl ⟨_, _, rfl, rfl⟩⟩ (Nat.le_of_ble_eq_true rfl) k1 ?_
  rintro _ _ ⟨r, s1, t1, e, rfl, rfl, k2⟩
  obtain ⟨S1, T1, RO1, e2⟩ := hq_t (b ^^ e) fm (L, xs) s1 t1
  have k3 := ab_T_ei rfl k2 (b ^^ e) fm
  rw [e2] at k3 ⊢
  show ab_Z m_Lw_law _ _ _ 571 [_, _, _, _] [_] _
  refine ab_go ok_Lw_law 5 rfl ?_
  show ab_Z m_Lw_law _ _ _ 576 [_, _, _, _] [_, _, _, _] _
  refine ab_sx ok_Lw_law rfl (k := 6 * i + 1) (by rw [show (1 : Int32) = nI 1 from rfl, nI_add]) (by omega) (by omega) rfl ?_
  show ab_Z m_Lw_law _ _ _ 577 [_, _, _, _] [_, _, _] _
  refine ab_cl ok_Lw_law rfl [_, _] [_] rfl ⟨_, _, rfl, rfl, Or.inl ⟨_, _, rfl, rfl⟩⟩ (Nat.le_of_ble_eq_true rfl) k3 ?_
  rintro _ _ ⟨r2, s2, t2, f, rfl, rfl, rfl, rfl, hI⟩
  show ab_Z m_Lw_law _ _ _ 578 [_, _, _, _] [_, _] _
  refine ab_br ok_Lw_law rfl rfl ?_ ?_
  · intro h9
    show ab_Z m_Lw_law _ _ _ 927 [_, _, _, _] [] _
    exact nx _ _ _ hI
  · intro h9
    show ab_Z m_Lw_law _ _ _ 579 [_, _, _, _] [] _
    exact absurd rfl h9
set_option maxRecDepth 8192 in
theorem lw_blank (hi : 6 * i + 6 ≤ L) (hL : L ≤ 3072) (h : INV i s t) (nx : ∀ b s t, INV (i + 1) s t → ab_Z m_Lw_law 27 (0, 0) Po 927 [some (.ref 9001), some (.ref 0), some (.ref 81), some (.int (nI (6 * i)))] [] (hq b fm (L, xs) s t)) : ab_Z m_Lw_law 27 (0, 0) Po 581 [some (.ref 9001), some (.ref 0), some (.ref 81), some (.int (nI (6 * i)))] [] (hq b fm (L, xs) s t) := by
  obtain ⟨S, T, RO, e1⟩ := hq_t b fm (L, xs) s t
  have k1 := ab_T_ei rfl (p_blank (L, xs) h (xs (6 * i + 1))) b fm
  rw [e1] at k1 ⊢
  refine ab_go ok_Lw_law 5 rfl ?_
  show ab_Z m_Lw_law _ _ _ 586 [_, _, _, _] [_, _, _] _
  refine ab_sx ok_Lw_law rfl (k := 6 * i + 1) (by rw [show (1 : Int32) = nI 1 from rfl, nI_add]) (by omega) (by omega) rfl ?_
  show ab_Z m_Lw_law _ _ _ 587 [_, _, _, _] [_, _] _
  refine ab_cl ok_Lw_law rfl [_, _] [] rfl ⟨_, _, rfl, rfl, Or.inl ⟨_, _, rfl, rfl⟩⟩ (Nat.le_of_ble_eq_true rfl) k1 ?_
  rintro _ _ ⟨r, s1, t1, e, rfl, rfl, k2⟩
  obtain ⟨S1, T1, RO1, e2⟩ := hq_t (b ^^ e) fm (L, xs) s1 t1
  have k3 := ab_T_ei rfl k2 (b ^^ e) fm
  rw [e2] at k3 ⊢
  show ab_Z m_Lw_law _ _ _ 588 [_, _, _, _] [_] _
  refine ab_go ok_Lw_law 5 rfl ?_
  show ab_Z m_Lw_law _ _ _ 593 [_, _, _, _] [_, _, _, _] _
  refine ab_sx ok_Lw_law rfl (k := 6 * i + 1) (by rw [show (1 : Int32) = nI 1 from rfl, nI_add]) (by omega) (by omega) rfl ?_
  show ab_Z m_Lw_law _ _ _ 594 [_, _, _, _] [_, _, _] _
  refine ab_cl ok_Lw_law rfl [_, _] [_] rfl ⟨_, _, rfl, rfl, Or.inl ⟨_, _, rfl, rfl⟩⟩ (Nat.le_of_ble_eq_true rfl) k3 ?_
  rintro _ _ ⟨r2, s2, t2, f, rfl, rfl, rfl, rfl, hI⟩
  show ab_Z m_Lw_law _ _ _ 595 [_, _, _, _] [_, _] _
  refine ab_br ok_Lw_law rfl rfl ?_ ?_
  · intro h9
    show ab_Z m_Lw_law _ _ _ 927 [_, _, _, _] [] _
    exact nx _ _ _ hI
  · intro h9
    show ab_Z m_Lw_law _ _ _ 596 [_, _, _, _] [] _
    exact absurd rfl h9
set_option maxRecDepth 8192 in
theorem lw_barest (hi : 6 * i + 6 ≤ L) (hL : L ≤ 3072) (h : INV i s t) (nx : ∀ b s t, INV (i + 1) s t → ab_Z m_Lw_law 27 (0, 0) Po 927 [some (.ref 9001), some (.ref 0), some (.ref 81), some (.int (nI (6 * i)))] [] (hq b fm (L, xs) s t)) : ab_Z m_Lw_law 27 (0, 0) Po 598 [some (.ref 9001), some (.ref 0), some (.ref 81), some (.int (nI (6 * i)))] [] (hq b fm (L, xs) s t) := by
  obtain ⟨S, T, RO, e1⟩ := hq_t b fm (L, xs) s t
  have k1 := ab_T_ei rfl (p_barest (L, xs) h (xs (6 * i + 1))) b fm
  rw [e1] at k1 ⊢
  refine ab_go ok_Lw_law 5 rfl ?_
  show ab_Z m_Lw_law _ _ _ 603 [_, _, _, _] [_, _, _] _
  refine ab_sx ok_Lw_law rfl (k := 6 * i + 1) (by rw [show (1 : Int32) = nI 1 from rfl, nI_add]) (by omega) (by omega) rfl ?_
  show ab_Z m_Lw_law _ _ _ 604 [_, _, _, _] [_, _] _
  refine ab_cl ok_Lw_law rfl [_, _] [] rfl ⟨_, _, rfl, rfl, Or.inl ⟨_, _, rfl, rfl⟩⟩ (Nat.le_of_ble_eq_true rfl) k1 ?_
  rintro _ _ ⟨r, s1, t1, e, rfl, rfl, k2⟩
  obtain ⟨S1, T1, RO1, e2⟩ := hq_t (b ^^ e) fm (L, xs) s1 t1
  have k3 := ab_T_ei rfl k2 (b ^^ e) fm
  rw [e2] at k3 ⊢
  show ab_Z m_Lw_law _ _ _ 605 [_, _, _, _] [_] _
  refine ab_go ok_Lw_law 5 rfl ?_
  show ab_Z m_Lw_law _ _ _ 610 [_, _, _, _] [_, _, _, _] _
  refine ab_sx ok_Lw_law rfl (k := 6 * i + 1) (by rw [show (1 : Int32) = nI 1 from rfl, nI_add]) (by omega) (by omega) rfl ?_
  show ab_Z m_Lw_law _ _ _ 611 [_, _, _, _] [_, _, _] _
  refine ab_cl ok_Lw_law rfl [_, _] [_] rfl ⟨_, _, rfl, rfl, Or.inl ⟨_, _, rfl, rfl⟩⟩ (Nat.le_of_ble_eq_true rfl) k3 ?_
  rintro _ _ ⟨r2, s2, t2, f, rfl, rfl, rfl, rfl, hI⟩
  show ab_Z m_Lw_law _ _ _ 612 [_, _, _, _] [_, _] _
  refine ab_br ok_Lw_law rfl rfl ?_ ?_
  · intro h9
    show ab_Z m_Lw_law _ _ _ 927 [_, _, _, _] [] _
    exact nx _ _ _ hI
  · intro h9
    show ab_Z m_Lw_law _ _ _ 613 [_, _, _, _] [] _
    exact absurd rfl h9
set_option maxRecDepth 8192 in
theorem lw_reads (hi : 6 * i + 6 ≤ L) (hL : L ≤ 3072) (h : INV i s t) (nx : ∀ b s t, INV (i + 1) s t → ab_Z m_Lw_law 27 (0, 0) Po 927 [some (.ref 9001), some (.ref 0), some (.ref 81), some (.int (nI (6 * i)))] [] (hq b fm (L, xs) s t)) : ab_Z m_Lw_law 27 (0, 0) Po 615 [some (.ref 9001), some (.ref 0), some (.ref 81), some (.int (nI (6 * i)))] [] (hq b fm (L, xs) s t) := by
  obtain ⟨S, T, RO, e1⟩ := hq_t b fm (L, xs) s t
  have k1 := ab_T_ei rfl (p_reads (L, xs) h (xs (6 * i + 1))) b fm
  rw [e1] at k1 ⊢
  refine ab_go ok_Lw_law 5 rfl ?_
  show ab_Z m_Lw_law _ _ _ 620 [_, _, _, _] [_, _, _] _
  refine ab_sx ok_Lw_law rfl (k := 6 * i + 1) (by rw [show (1 : Int32) = nI 1 from rfl, nI_add]) (by omega) (by omega) rfl ?_
  show ab_Z m_Lw_law _ _ _ 621 [_, _, _, _] [_, _] _
  refine ab_cl ok_Lw_law rfl [_, _] [] rfl ⟨_, _, rfl, rfl, Or.inl ⟨_, _, rfl, rfl⟩⟩ (Nat.le_of_ble_eq_true rfl) k1 ?_
  rintro _ _ ⟨r, s1, t1, e, rfl, rfl, k2⟩
  obtain ⟨S1, T1, RO1, e2⟩ := hq_t (b ^^ e) fm (L, xs) s1 t1
  have k3 := ab_T_ei rfl k2 (b ^^ e) fm
  rw [e2] at k3 ⊢
  show ab_Z m_Lw_law _ _ _ 622 [_, _, _, _] [_] _
  refine ab_go ok_Lw_law 5 rfl ?_
  show ab_Z m_Lw_law _ _ _ 627 [_, _, _, _] [_, _, _, _] _
  refine ab_sx ok_Lw_law rfl (k := 6 * i + 1) (by rw [show (1 : Int32) = nI 1 from rfl, nI_add]) (by omega) (by omega) rfl ?_
  show ab_Z m_Lw_law _ _ _ 628 [_, _, _, _] [_, _, _] _
  refine ab_cl ok_Lw_law rfl [_, _] [_] rfl ⟨_, _, rfl, rfl, Or.inl ⟨_, _, rfl, rfl⟩⟩ (Nat.le_of_ble_eq_true rfl) k3 ?_
  rintro _ _ ⟨r2, s2, t2, f, rfl, rfl, rfl, rfl, hI⟩
  show ab_Z m_Lw_law _ _ _ 629 [_, _, _, _] [_, _] _
  refine ab_br ok_Lw_law rfl rfl ?_ ?_
  · intro h9
    show ab_Z m_Lw_law _ _ _ 927 [_, _, _, _] [] _
    exact nx _ _ _ hI
  · intro h9
    show ab_Z m_Lw_law _ _ _ 630 [_, _, _, _] [] _
    exact absurd rfl h9
set_option maxRecDepth 8192 in
theorem lw_levelIn (hi : 6 * i + 6 ≤ L) (hL : L ≤ 3072) (h : INV i s t) (nx : ∀ b s t, INV (i + 1) s t → ab_Z m_Lw_law 27 (0, 0) Po 927 [some (.ref 9001), some (.ref 0), some (.ref 81), some (.int (nI (6 * i)))] [] (hq b fm (L, xs) s t)) : ab_Z m_Lw_law 27 (0, 0) Po 632 [some (.ref 9001), some (.ref 0), some (.ref 81), some (.int (nI (6 * i)))] [] (hq b fm (L, xs) s t) := by
  obtain ⟨S, T, RO, e1⟩ := hq_t b fm (L, xs) s t
  have k1 := ab_T_ei rfl (p_levelIn (L, xs) h (xs (6 * i + 1)) (xs (6 * i + 2)) (xs (6 * i + 3))) b fm
  rw [e1] at k1 ⊢
  refine ab_go ok_Lw_law 5 rfl ?_
  show ab_Z m_Lw_law _ _ _ 637 [_, _, _, _] [_, _, _] _
  refine ab_sx ok_Lw_law rfl (k := 6 * i + 1) (by rw [show (1 : Int32) = nI 1 from rfl, nI_add]) (by omega) (by omega) rfl ?_
  show ab_Z m_Lw_law _ _ _ 638 [_, _, _, _] [_, _] _
  refine ab_go ok_Lw_law 4 rfl ?_
  show ab_Z m_Lw_law _ _ _ 642 [_, _, _, _] [_, _, _, _] _
  refine ab_sx ok_Lw_law rfl (k := 6 * i + 2) (by rw [show (2 : Int32) = nI 2 from rfl, nI_add]) (by omega) (by omega) rfl ?_
  show ab_Z m_Lw_law _ _ _ 643 [_, _, _, _] [_, _, _] _
  refine ab_go ok_Lw_law 4 rfl ?_
  show ab_Z m_Lw_law _ _ _ 647 [_, _, _, _] [_, _, _, _, _] _
  refine ab_sx ok_Lw_law rfl (k := 6 * i + 3) (by rw [show (3 : Int32) = nI 3 from rfl, nI_add]) (by omega) (by omega) rfl ?_
  show ab_Z m_Lw_law _ _ _ 648 [_, _, _, _] [_, _, _, _] _
  refine ab_cl ok_Lw_law rfl [_, _, _, _] [] rfl ⟨_, _, rfl, rfl, Or.inl ⟨_, _, rfl, rfl⟩⟩ (Nat.le_of_ble_eq_true rfl) k1 ?_
  rintro _ _ ⟨r, s1, t1, e, rfl, rfl, k2⟩
  obtain ⟨S1, T1, RO1, e2⟩ := hq_t (b ^^ e) fm (L, xs) s1 t1
  have k3 := ab_T_ei rfl k2 (b ^^ e) fm
  rw [e2] at k3 ⊢
  show ab_Z m_Lw_law _ _ _ 649 [_, _, _, _] [_] _
  refine ab_go ok_Lw_law 5 rfl ?_
  show ab_Z m_Lw_law _ _ _ 654 [_, _, _, _] [_, _, _, _] _
  refine ab_sx ok_Lw_law rfl (k := 6 * i + 1) (by rw [show (1 : Int32) = nI 1 from rfl, nI_add]) (by omega) (by omega) rfl ?_
  show ab_Z m_Lw_law _ _ _ 655 [_, _, _, _] [_, _, _] _
  refine ab_go ok_Lw_law 4 rfl ?_
  show ab_Z m_Lw_law _ _ _ 659 [_, _, _, _] [_, _, _, _, _] _
  refine ab_sx ok_Lw_law rfl (k := 6 * i + 2) (by rw [show (2 : Int32) = nI 2 from rfl, nI_add]) (by omega) (by omega) rfl ?_
  show ab_Z m_Lw_law _ _ _ 660 [_, _, _, _] [_, _, _, _] _
  refine ab_go ok_Lw_law 4 rfl ?_
  show ab_Z m_Lw_law _ _ _ 664 [_, _, _, _] [_, _, _, _, _, _] _
  refine ab_sx ok_Lw_law rfl (k := 6 * i + 3) (by rw [show (3 : Int32) = nI 3 from rfl, nI_add]) (by omega) (by omega) rfl ?_
  show ab_Z m_Lw_law _ _ _ 665 [_, _, _, _] [_, _, _, _, _] _
  refine ab_cl ok_Lw_law rfl [_, _, _, _] [_] rfl ⟨_, _, rfl, rfl, Or.inl ⟨_, _, rfl, rfl⟩⟩ (Nat.le_of_ble_eq_true rfl) k3 ?_
  rintro _ _ ⟨r2, s2, t2, f, rfl, rfl, rfl, rfl, hI⟩
  show ab_Z m_Lw_law _ _ _ 666 [_, _, _, _] [_, _] _
  refine ab_br ok_Lw_law rfl rfl ?_ ?_
  · intro h9
    show ab_Z m_Lw_law _ _ _ 927 [_, _, _, _] [] _
    exact nx _ _ _ hI
  · intro h9
    show ab_Z m_Lw_law _ _ _ 667 [_, _, _, _] [] _
    exact absurd rfl h9
end

