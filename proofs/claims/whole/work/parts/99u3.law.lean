/-! the law: cases 31 .. 40 (written by gen_law.py) -/
section
variable {i L : Nat} {xs : Nat → Int32} {fm : Value} {s : Nat → Nat → Int32} {t : Nat → Nat → Int64} {b : Bool} {Po : Option Value → ab_H → Prop}
set_option maxRecDepth 8192 in
theorem lw_printIn (hi : 6 * i + 6 ≤ L) (hL : L ≤ 3072) (h : INV i s t) (nx : ∀ b s t, INV (i + 1) s t → ab_Z m_Lw_law 27 (0, 0) Po 927 [some (.ref 9001), some (.ref 0), some (.ref 81), some (.int (nI (6 * i)))] [] (hq b fm (L, xs) s t)) : ab_Z m_Lw_law 27 (0, 0) Po 669 [some (.ref 9001), some (.ref 0), some (.ref 81), some (.int (nI (6 * i)))] [] (hq b fm (L, xs) s t) := by
  obtain ⟨S, T, RO, e1⟩ := hq_t b fm (L, xs) s t
  have k1 := ab_T_ei rfl (p_printIn (L, xs) h (xs (6 * i + 1)) (xs (6 * i + 2)) (xs (6 * i + 3))) b fm
  rw [e1] at k1 ⊢
  refine ab_go ok_Lw_law 5 rfl ?_
  show ab_Z m_Lw_law _ _ _ 674 [_, _, _, _] [_, _, _] _
  refine ab_sx ok_Lw_law rfl (k := 6 * i + 1) (by rw [show (1 : Int32) = nI 1 from rfl, nI_add]) (by omega) (by omega) rfl ?_
  show ab_Z m_Lw_law _ _ _ 675 [_, _, _, _] [_, _] _
  refine ab_go ok_Lw_law 4 rfl ?_
  show ab_Z m_Lw_law _ _ _ 679 [_, _, _, _] [_, _, _, _] _
  refine ab_sx ok_Lw_law rfl (k := 6 * i + 2) (by rw [show (2 : Int32) = nI 2 from rfl, nI_add]) (by omega) (by omega) rfl ?_
  show ab_Z m_Lw_law _ _ _ 680 [_, _, _, _] [_, _, _] _
  refine ab_go ok_Lw_law 4 rfl ?_
  show ab_Z m_Lw_law _ _ _ 684 [_, _, _, _] [_, _, _, _, _] _
  refine ab_sx ok_Lw_law rfl (k := 6 * i + 3) (by rw [show (3 : Int32) = nI 3 from rfl, nI_add]) (by omega) (by omega) rfl ?_
  show ab_Z m_Lw_law _ _ _ 685 [_, _, _, _] [_, _, _, _] _
  refine ab_cl ok_Lw_law rfl [_, _, _, _] [] rfl ⟨_, _, rfl, rfl, Or.inl ⟨_, _, rfl, rfl⟩⟩ (Nat.le_of_ble_eq_true rfl) k1 ?_
  rintro _ _ ⟨r, s1, t1, e, rfl, rfl, k2⟩
  obtain ⟨S1, T1, RO1, e2⟩ := hq_t (b ^^ e) fm (L, xs) s1 t1
  have k3 := ab_T_ei rfl k2 (b ^^ e) fm
  rw [e2] at k3 ⊢
  show ab_Z m_Lw_law _ _ _ 686 [_, _, _, _] [_] _
  refine ab_go ok_Lw_law 5 rfl ?_
  show ab_Z m_Lw_law _ _ _ 691 [_, _, _, _] [_, _, _, _] _
  refine ab_sx ok_Lw_law rfl (k := 6 * i + 1) (by rw [show (1 : Int32) = nI 1 from rfl, nI_add]) (by omega) (by omega) rfl ?_
  show ab_Z m_Lw_law _ _ _ 692 [_, _, _, _] [_, _, _] _
  refine ab_go ok_Lw_law 4 rfl ?_
  show ab_Z m_Lw_law _ _ _ 696 [_, _, _, _] [_, _, _, _, _] _
  refine ab_sx ok_Lw_law rfl (k := 6 * i + 2) (by rw [show (2 : Int32) = nI 2 from rfl, nI_add]) (by omega) (by omega) rfl ?_
  show ab_Z m_Lw_law _ _ _ 697 [_, _, _, _] [_, _, _, _] _
  refine ab_go ok_Lw_law 4 rfl ?_
  show ab_Z m_Lw_law _ _ _ 701 [_, _, _, _] [_, _, _, _, _, _] _
  refine ab_sx ok_Lw_law rfl (k := 6 * i + 3) (by rw [show (3 : Int32) = nI 3 from rfl, nI_add]) (by omega) (by omega) rfl ?_
  show ab_Z m_Lw_law _ _ _ 702 [_, _, _, _] [_, _, _, _, _] _
  refine ab_cl ok_Lw_law rfl [_, _, _, _] [_] rfl ⟨_, _, rfl, rfl, Or.inl ⟨_, _, rfl, rfl⟩⟩ (Nat.le_of_ble_eq_true rfl) k3 ?_
  rintro _ _ ⟨r2, s2, t2, f, rfl, rfl, rfl, rfl, hI⟩
  show ab_Z m_Lw_law _ _ _ 703 [_, _, _, _] [_, _] _
  refine ab_br ok_Lw_law rfl rfl ?_ ?_
  · intro h9
    show ab_Z m_Lw_law _ _ _ 927 [_, _, _, _] [] _
    exact nx _ _ _ hI
  · intro h9
    show ab_Z m_Lw_law _ _ _ 704 [_, _, _, _] [] _
    exact absurd rfl h9
set_option maxRecDepth 8192 in
theorem lw_bindsIn (hi : 6 * i + 6 ≤ L) (hL : L ≤ 3072) (h : INV i s t) (nx : ∀ b s t, INV (i + 1) s t → ab_Z m_Lw_law 27 (0, 0) Po 927 [some (.ref 9001), some (.ref 0), some (.ref 81), some (.int (nI (6 * i)))] [] (hq b fm (L, xs) s t)) : ab_Z m_Lw_law 27 (0, 0) Po 706 [some (.ref 9001), some (.ref 0), some (.ref 81), some (.int (nI (6 * i)))] [] (hq b fm (L, xs) s t) := by
  obtain ⟨S, T, RO, e1⟩ := hq_t b fm (L, xs) s t
  have k1 := ab_T_ei rfl (p_bindsIn (L, xs) h (xs (6 * i + 1))) b fm
  rw [e1] at k1 ⊢
  refine ab_go ok_Lw_law 5 rfl ?_
  show ab_Z m_Lw_law _ _ _ 711 [_, _, _, _] [_, _, _] _
  refine ab_sx ok_Lw_law rfl (k := 6 * i + 1) (by rw [show (1 : Int32) = nI 1 from rfl, nI_add]) (by omega) (by omega) rfl ?_
  show ab_Z m_Lw_law _ _ _ 712 [_, _, _, _] [_, _] _
  refine ab_cl ok_Lw_law rfl [_, _] [] rfl ⟨_, _, rfl, rfl, Or.inl ⟨_, _, rfl, rfl⟩⟩ (Nat.le_of_ble_eq_true rfl) k1 ?_
  rintro _ _ ⟨r, s1, t1, e, rfl, rfl, k2⟩
  obtain ⟨S1, T1, RO1, e2⟩ := hq_t (b ^^ e) fm (L, xs) s1 t1
  have k3 := ab_T_ei rfl k2 (b ^^ e) fm
  rw [e2] at k3 ⊢
  show ab_Z m_Lw_law _ _ _ 713 [_, _, _, _] [_] _
  refine ab_go ok_Lw_law 5 rfl ?_
  show ab_Z m_Lw_law _ _ _ 718 [_, _, _, _] [_, _, _, _] _
  refine ab_sx ok_Lw_law rfl (k := 6 * i + 1) (by rw [show (1 : Int32) = nI 1 from rfl, nI_add]) (by omega) (by omega) rfl ?_
  show ab_Z m_Lw_law _ _ _ 719 [_, _, _, _] [_, _, _] _
  refine ab_cl ok_Lw_law rfl [_, _] [_] rfl ⟨_, _, rfl, rfl, Or.inl ⟨_, _, rfl, rfl⟩⟩ (Nat.le_of_ble_eq_true rfl) k3 ?_
  rintro _ _ ⟨r2, s2, t2, f, rfl, rfl, rfl, rfl, hI⟩
  show ab_Z m_Lw_law _ _ _ 720 [_, _, _, _] [_, _] _
  refine ab_br ok_Lw_law rfl rfl ?_ ?_
  · intro h9
    show ab_Z m_Lw_law _ _ _ 927 [_, _, _, _] [] _
    exact nx _ _ _ hI
  · intro h9
    show ab_Z m_Lw_law _ _ _ 721 [_, _, _, _] [] _
    exact absurd rfl h9
set_option maxRecDepth 8192 in
theorem lw_year (hi : 6 * i + 6 ≤ L) (hL : L ≤ 3072) (h : INV i s t) (nx : ∀ b s t, INV (i + 1) s t → ab_Z m_Lw_law 27 (0, 0) Po 927 [some (.ref 9001), some (.ref 0), some (.ref 81), some (.int (nI (6 * i)))] [] (hq b fm (L, xs) s t)) : ab_Z m_Lw_law 27 (0, 0) Po 723 [some (.ref 9001), some (.ref 0), some (.ref 81), some (.int (nI (6 * i)))] [] (hq b fm (L, xs) s t) := by
  obtain ⟨S, T, RO, e1⟩ := hq_t b fm (L, xs) s t
  have k1 := ab_T_ei rfl (p_year (L, xs) h (xs (6 * i + 1)) (xs (6 * i + 2))) b fm
  rw [e1] at k1 ⊢
  refine ab_go ok_Lw_law 5 rfl ?_
  show ab_Z m_Lw_law _ _ _ 728 [_, _, _, _] [_, _, _] _
  refine ab_sx ok_Lw_law rfl (k := 6 * i + 1) (by rw [show (1 : Int32) = nI 1 from rfl, nI_add]) (by omega) (by omega) rfl ?_
  show ab_Z m_Lw_law _ _ _ 729 [_, _, _, _] [_, _] _
  refine ab_go ok_Lw_law 4 rfl ?_
  show ab_Z m_Lw_law _ _ _ 733 [_, _, _, _] [_, _, _, _] _
  refine ab_sx ok_Lw_law rfl (k := 6 * i + 2) (by rw [show (2 : Int32) = nI 2 from rfl, nI_add]) (by omega) (by omega) rfl ?_
  show ab_Z m_Lw_law _ _ _ 734 [_, _, _, _] [_, _, _] _
  refine ab_cl ok_Lw_law rfl [_, _, _] [] rfl ⟨_, _, rfl, rfl, Or.inl ⟨_, _, rfl, rfl⟩⟩ (Nat.le_of_ble_eq_true rfl) k1 ?_
  rintro _ _ ⟨r, s1, t1, e, rfl, rfl, k2⟩
  obtain ⟨S1, T1, RO1, e2⟩ := hq_t (b ^^ e) fm (L, xs) s1 t1
  have k3 := ab_T_ei rfl k2 (b ^^ e) fm
  rw [e2] at k3 ⊢
  show ab_Z m_Lw_law _ _ _ 735 [_, _, _, _] [_] _
  refine ab_go ok_Lw_law 5 rfl ?_
  show ab_Z m_Lw_law _ _ _ 740 [_, _, _, _] [_, _, _, _] _
  refine ab_sx ok_Lw_law rfl (k := 6 * i + 1) (by rw [show (1 : Int32) = nI 1 from rfl, nI_add]) (by omega) (by omega) rfl ?_
  show ab_Z m_Lw_law _ _ _ 741 [_, _, _, _] [_, _, _] _
  refine ab_go ok_Lw_law 4 rfl ?_
  show ab_Z m_Lw_law _ _ _ 745 [_, _, _, _] [_, _, _, _, _] _
  refine ab_sx ok_Lw_law rfl (k := 6 * i + 2) (by rw [show (2 : Int32) = nI 2 from rfl, nI_add]) (by omega) (by omega) rfl ?_
  show ab_Z m_Lw_law _ _ _ 746 [_, _, _, _] [_, _, _, _] _
  refine ab_cl ok_Lw_law rfl [_, _, _] [_] rfl ⟨_, _, rfl, rfl, Or.inl ⟨_, _, rfl, rfl⟩⟩ (Nat.le_of_ble_eq_true rfl) k3 ?_
  rintro _ _ ⟨r2, s2, t2, f, rfl, rfl, rfl, rfl, hI⟩
  show ab_Z m_Lw_law _ _ _ 747 [_, _, _, _] [_, _] _
  refine ab_br ok_Lw_law rfl rfl ?_ ?_
  · intro h9
    show ab_Z m_Lw_law _ _ _ 927 [_, _, _, _] [] _
    exact nx _ _ _ hI
  · intro h9
    show ab_Z m_Lw_law _ _ _ 748 [_, _, _, _] [] _
    exact absurd rfl h9
set_option maxRecDepth 8192 in
theorem lw_tell (hi : 6 * i + 6 ≤ L) (hL : L ≤ 3072) (h : INV i s t) (nx : ∀ b s t, INV (i + 1) s t → ab_Z m_Lw_law 27 (0, 0) Po 927 [some (.ref 9001), some (.ref 0), some (.ref 81), some (.int (nI (6 * i)))] [] (hq b fm (L, xs) s t)) : ab_Z m_Lw_law 27 (0, 0) Po 750 [some (.ref 9001), some (.ref 0), some (.ref 81), some (.int (nI (6 * i)))] [] (hq b fm (L, xs) s t) := by
  by_cases hz : xs (6 * i + 3) = 0
  · obtain ⟨S, T, RO, e1⟩ := hq_t b fm (L, xs) s t
    have k1 := ab_T_ei rfl (p_tell (L, xs) h (xs (6 * i + 1)) (xs (6 * i + 2)) 0) b fm
    rw [e1] at k1 ⊢
    refine ab_go ok_Lw_law 5 rfl ?_
    show ab_Z m_Lw_law _ _ _ 755 [_, _, _, _] [_, _, _] _
    refine ab_sx ok_Lw_law rfl (k := 6 * i + 1) (by rw [show (1 : Int32) = nI 1 from rfl, nI_add]) (by omega) (by omega) rfl ?_
    show ab_Z m_Lw_law _ _ _ 756 [_, _, _, _] [_, _] _
    refine ab_go ok_Lw_law 4 rfl ?_
    show ab_Z m_Lw_law _ _ _ 760 [_, _, _, _] [_, _, _, _] _
    refine ab_sx ok_Lw_law rfl (k := 6 * i + 2) (by rw [show (2 : Int32) = nI 2 from rfl, nI_add]) (by omega) (by omega) rfl ?_
    show ab_Z m_Lw_law _ _ _ 761 [_, _, _, _] [_, _, _] _
    refine ab_go ok_Lw_law 4 rfl ?_
    show ab_Z m_Lw_law _ _ _ 765 [_, _, _, _] [_, _, _, _, _] _
    refine ab_sx ok_Lw_law rfl (k := 6 * i + 3) (by rw [show (3 : Int32) = nI 3 from rfl, nI_add]) (by omega) (by omega) rfl ?_
    show ab_Z m_Lw_law _ _ _ 766 [_, _, _, _] [_, _, _, _] _
    refine ab_br ok_Lw_law rfl rfl ?_ ?_
    · intro h1
      show ab_Z m_Lw_law _ _ _ 769 [_, _, _, _] [_, _, _] _
      refine ab_go ok_Lw_law 1 rfl ?_
      show ab_Z m_Lw_law _ _ _ 770 [_, _, _, _] [_, _, _, _] _
      refine ab_cl ok_Lw_law rfl [_, _, _, _] [] rfl ⟨_, _, rfl, rfl, Or.inl ⟨_, _, rfl, rfl⟩⟩ (Nat.le_of_ble_eq_true rfl) k1 ?_
      rintro _ _ ⟨r, s1, t1, e, rfl, rfl, k2⟩
      obtain ⟨S1, T1, RO1, e2⟩ := hq_t (b ^^ e) fm (L, xs) s1 t1
      have k3 := ab_T_ei rfl k2 (b ^^ e) fm
      rw [e2] at k3 ⊢
      show ab_Z m_Lw_law _ _ _ 771 [_, _, _, _] [_] _
      refine ab_go ok_Lw_law 5 rfl ?_
      show ab_Z m_Lw_law _ _ _ 776 [_, _, _, _] [_, _, _, _] _
      refine ab_sx ok_Lw_law rfl (k := 6 * i + 1) (by rw [show (1 : Int32) = nI 1 from rfl, nI_add]) (by omega) (by omega) rfl ?_
      show ab_Z m_Lw_law _ _ _ 777 [_, _, _, _] [_, _, _] _
      refine ab_go ok_Lw_law 4 rfl ?_
      show ab_Z m_Lw_law _ _ _ 781 [_, _, _, _] [_, _, _, _, _] _
      refine ab_sx ok_Lw_law rfl (k := 6 * i + 2) (by rw [show (2 : Int32) = nI 2 from rfl, nI_add]) (by omega) (by omega) rfl ?_
      show ab_Z m_Lw_law _ _ _ 782 [_, _, _, _] [_, _, _, _] _
      refine ab_go ok_Lw_law 4 rfl ?_
      show ab_Z m_Lw_law _ _ _ 786 [_, _, _, _] [_, _, _, _, _, _] _
      refine ab_sx ok_Lw_law rfl (k := 6 * i + 3) (by rw [show (3 : Int32) = nI 3 from rfl, nI_add]) (by omega) (by omega) rfl ?_
      show ab_Z m_Lw_law _ _ _ 787 [_, _, _, _] [_, _, _, _, _] _
      refine ab_br ok_Lw_law rfl rfl ?_ ?_
      · intro h2
        show ab_Z m_Lw_law _ _ _ 790 [_, _, _, _] [_, _, _, _] _
        refine ab_go ok_Lw_law 1 rfl ?_
        show ab_Z m_Lw_law _ _ _ 791 [_, _, _, _] [_, _, _, _, _] _
        refine ab_cl ok_Lw_law rfl [_, _, _, _] [_] rfl ⟨_, _, rfl, rfl, Or.inl ⟨_, _, rfl, rfl⟩⟩ (Nat.le_of_ble_eq_true rfl) k3 ?_
        rintro _ _ ⟨r2, s2, t2, f, rfl, rfl, rfl, rfl, hI⟩
        show ab_Z m_Lw_law _ _ _ 792 [_, _, _, _] [_, _] _
        refine ab_br ok_Lw_law rfl rfl ?_ ?_
        · intro h9
          show ab_Z m_Lw_law _ _ _ 927 [_, _, _, _] [] _
          exact nx _ _ _ hI
        · intro h9
          show ab_Z m_Lw_law _ _ _ 793 [_, _, _, _] [] _
          exact absurd rfl h9
      · intro h2
        show ab_Z m_Lw_law _ _ _ 788 [_, _, _, _] [_, _, _, _] _
        exact absurd hz h2
    · intro h1
      show ab_Z m_Lw_law _ _ _ 767 [_, _, _, _] [_, _, _] _
      exact absurd hz h1
  · obtain ⟨S, T, RO, e1⟩ := hq_t b fm (L, xs) s t
    have k1 := ab_T_ei rfl (p_tell (L, xs) h (xs (6 * i + 1)) (xs (6 * i + 2)) 1) b fm
    rw [e1] at k1 ⊢
    refine ab_go ok_Lw_law 5 rfl ?_
    show ab_Z m_Lw_law _ _ _ 755 [_, _, _, _] [_, _, _] _
    refine ab_sx ok_Lw_law rfl (k := 6 * i + 1) (by rw [show (1 : Int32) = nI 1 from rfl, nI_add]) (by omega) (by omega) rfl ?_
    show ab_Z m_Lw_law _ _ _ 756 [_, _, _, _] [_, _] _
    refine ab_go ok_Lw_law 4 rfl ?_
    show ab_Z m_Lw_law _ _ _ 760 [_, _, _, _] [_, _, _, _] _
    refine ab_sx ok_Lw_law rfl (k := 6 * i + 2) (by rw [show (2 : Int32) = nI 2 from rfl, nI_add]) (by omega) (by omega) rfl ?_
    show ab_Z m_Lw_law _ _ _ 761 [_, _, _, _] [_, _, _] _
    refine ab_go ok_Lw_law 4 rfl ?_
    show ab_Z m_Lw_law _ _ _ 765 [_, _, _, _] [_, _, _, _, _] _
    refine ab_sx ok_Lw_law rfl (k := 6 * i + 3) (by rw [show (3 : Int32) = nI 3 from rfl, nI_add]) (by omega) (by omega) rfl ?_
    show ab_Z m_Lw_law _ _ _ 766 [_, _, _, _] [_, _, _, _] _
    refine ab_br ok_Lw_law rfl rfl ?_ ?_
    · intro h1
      show ab_Z m_Lw_law _ _ _ 769 [_, _, _, _] [_, _, _] _
      exact absurd h1 hz
    · intro h1
      show ab_Z m_Lw_law _ _ _ 767 [_, _, _, _] [_, _, _] _
      refine ab_go ok_Lw_law 2 rfl ?_
      show ab_Z m_Lw_law _ _ _ 770 [_, _, _, _] [_, _, _, _] _
      refine ab_cl ok_Lw_law rfl [_, _, _, _] [] rfl ⟨_, _, rfl, rfl, Or.inl ⟨_, _, rfl, rfl⟩⟩ (Nat.le_of_ble_eq_true rfl) k1 ?_
      rintro _ _ ⟨r, s1, t1, e, rfl, rfl, k2⟩
      obtain ⟨S1, T1, RO1, e2⟩ := hq_t (b ^^ e) fm (L, xs) s1 t1
      have k3 := ab_T_ei rfl k2 (b ^^ e) fm
      rw [e2] at k3 ⊢
      show ab_Z m_Lw_law _ _ _ 771 [_, _, _, _] [_] _
      refine ab_go ok_Lw_law 5 rfl ?_
      show ab_Z m_Lw_law _ _ _ 776 [_, _, _, _] [_, _, _, _] _
      refine ab_sx ok_Lw_law rfl (k := 6 * i + 1) (by rw [show (1 : Int32) = nI 1 from rfl, nI_add]) (by omega) (by omega) rfl ?_
      show ab_Z m_Lw_law _ _ _ 777 [_, _, _, _] [_, _, _] _
      refine ab_go ok_Lw_law 4 rfl ?_
      show ab_Z m_Lw_law _ _ _ 781 [_, _, _, _] [_, _, _, _, _] _
      refine ab_sx ok_Lw_law rfl (k := 6 * i + 2) (by rw [show (2 : Int32) = nI 2 from rfl, nI_add]) (by omega) (by omega) rfl ?_
      show ab_Z m_Lw_law _ _ _ 782 [_, _, _, _] [_, _, _, _] _
      refine ab_go ok_Lw_law 4 rfl ?_
      show ab_Z m_Lw_law _ _ _ 786 [_, _, _, _] [_, _, _, _, _, _] _
      refine ab_sx ok_Lw_law rfl (k := 6 * i + 3) (by rw [show (3 : Int32) = nI 3 from rfl, nI_add]) (by omega) (by omega) rfl ?_
      show ab_Z m_Lw_law _ _ _ 787 [_, _, _, _] [_, _, _, _, _] _
      refine ab_br ok_Lw_law rfl rfl ?_ ?_
      · intro h2
        show ab_Z m_Lw_law _ _ _ 790 [_, _, _, _] [_, _, _, _] _
        exact absurd h2 hz
      · intro h2
        show ab_Z m_Lw_law _ _ _ 788 [_, _, _, _] [_, _, _, _] _
        refine ab_go ok_Lw_law 2 rfl ?_
        show ab_Z m_Lw_law _ _ _ 791 [_, _, _, _] [_, _, _, _, _] _
        refine ab_cl ok_Lw_law rfl [_, _, _, _] [_] rfl ⟨_, _, rfl, rfl, Or.inl ⟨_, _, rfl, rfl⟩⟩ (Nat.le_of_ble_eq_true rfl) k3 ?_
        rintro _ _ ⟨r2, s2, t2, f, rfl, rfl, rfl, rfl, hI⟩
        show ab_Z m_Lw_law _ _ _ 792 [_, _, _, _] [_, _] _
        refine ab_br ok_Lw_law rfl rfl ?_ ?_
        · intro h9
          show ab_Z m_Lw_law _ _ _ 927 [_, _, _, _] [] _
          exact nx _ _ _ hI
        · intro h9
          show ab_Z m_Lw_law _ _ _ 793 [_, _, _, _] [] _
          exact absurd rfl h9
set_option maxRecDepth 8192 in
theorem lw_forget (hi : 6 * i + 6 ≤ L) (hL : L ≤ 3072) (h : INV i s t) (nx : ∀ b s t, INV (i + 1) s t → ab_Z m_Lw_law 27 (0, 0) Po 927 [some (.ref 9001), some (.ref 0), some (.ref 81), some (.int (nI (6 * i)))] [] (hq b fm (L, xs) s t)) : ab_Z m_Lw_law 27 (0, 0) Po 795 [some (.ref 9001), some (.ref 0), some (.ref 81), some (.int (nI (6 * i)))] [] (hq b fm (L, xs) s t) := by
  obtain ⟨S, T, RO, e1⟩ := hq_t b fm (L, xs) s t
  have k1 := ab_T_ei rfl (p_forget (L, xs) h ) b fm
  rw [e1] at k1 ⊢
  refine ab_go ok_Lw_law 1 rfl ?_
  show ab_Z m_Lw_law _ _ _ 796 [_, _, _, _] [_] _
  refine ab_cl ok_Lw_law rfl [_] [] rfl ⟨_, _, rfl, rfl, Or.inl ⟨_, _, rfl, rfl⟩⟩ (Nat.le_of_ble_eq_true rfl) k1 ?_
  rintro _ _ ⟨r, s1, t1, e, rfl, rfl, k2⟩
  obtain ⟨S1, T1, RO1, e2⟩ := hq_t (b ^^ e) fm (L, xs) s1 t1
  have k3 := ab_T_ei rfl k2 (b ^^ e) fm
  rw [e2] at k3 ⊢
  show ab_Z m_Lw_law _ _ _ 797 [_, _, _, _] [_] _
  refine ab_go ok_Lw_law 1 rfl ?_
  show ab_Z m_Lw_law _ _ _ 798 [_, _, _, _] [_, _] _
  refine ab_cl ok_Lw_law rfl [_] [_] rfl ⟨_, _, rfl, rfl, Or.inl ⟨_, _, rfl, rfl⟩⟩ (Nat.le_of_ble_eq_true rfl) k3 ?_
  rintro _ _ ⟨r2, s2, t2, f, rfl, rfl, rfl, rfl, hI⟩
  show ab_Z m_Lw_law _ _ _ 799 [_, _, _, _] [_, _] _
  refine ab_br ok_Lw_law rfl rfl ?_ ?_
  · intro h9
    show ab_Z m_Lw_law _ _ _ 927 [_, _, _, _] [] _
    exact nx _ _ _ hI
  · intro h9
    show ab_Z m_Lw_law _ _ _ 800 [_, _, _, _] [] _
    exact absurd rfl h9
set_option maxRecDepth 8192 in
theorem lw_who (hi : 6 * i + 6 ≤ L) (hL : L ≤ 3072) (h : INV i s t) (nx : ∀ b s t, INV (i + 1) s t → ab_Z m_Lw_law 27 (0, 0) Po 927 [some (.ref 9001), some (.ref 0), some (.ref 81), some (.int (nI (6 * i)))] [] (hq b fm (L, xs) s t)) : ab_Z m_Lw_law 27 (0, 0) Po 802 [some (.ref 9001), some (.ref 0), some (.ref 81), some (.int (nI (6 * i)))] [] (hq b fm (L, xs) s t) := by
  obtain ⟨S, T, RO, e1⟩ := hq_t b fm (L, xs) s t
  have k1 := ab_T_ei rfl (p_who (L, xs) h (xs (6 * i + 1)) (xs (6 * i + 2)) (xs (6 * i + 3))) b fm
  rw [e1] at k1 ⊢
  refine ab_go ok_Lw_law 5 rfl ?_
  show ab_Z m_Lw_law _ _ _ 807 [_, _, _, _] [_, _, _] _
  refine ab_sx ok_Lw_law rfl (k := 6 * i + 1) (by rw [show (1 : Int32) = nI 1 from rfl, nI_add]) (by omega) (by omega) rfl ?_
  show ab_Z m_Lw_law _ _ _ 808 [_, _, _, _] [_, _] _
  refine ab_go ok_Lw_law 4 rfl ?_
  show ab_Z m_Lw_law _ _ _ 812 [_, _, _, _] [_, _, _, _] _
  refine ab_sx ok_Lw_law rfl (k := 6 * i + 2) (by rw [show (2 : Int32) = nI 2 from rfl, nI_add]) (by omega) (by omega) rfl ?_
  show ab_Z m_Lw_law _ _ _ 813 [_, _, _, _] [_, _, _] _
  refine ab_go ok_Lw_law 4 rfl ?_
  show ab_Z m_Lw_law _ _ _ 817 [_, _, _, _] [_, _, _, _, _] _
  refine ab_sx ok_Lw_law rfl (k := 6 * i + 3) (by rw [show (3 : Int32) = nI 3 from rfl, nI_add]) (by omega) (by omega) rfl ?_
  show ab_Z m_Lw_law _ _ _ 818 [_, _, _, _] [_, _, _, _] _
  refine ab_cl ok_Lw_law rfl [_, _, _, _] [] rfl ⟨_, _, rfl, rfl, Or.inl ⟨_, _, rfl, rfl⟩⟩ (Nat.le_of_ble_eq_true rfl) k1 ?_
  rintro _ _ ⟨r, s1, t1, e, rfl, rfl, k2⟩
  obtain ⟨S1, T1, RO1, e2⟩ := hq_t (b ^^ e) fm (L, xs) s1 t1
  have k3 := ab_T_ei rfl k2 (b ^^ e) fm
  rw [e2] at k3 ⊢
  show ab_Z m_Lw_law _ _ _ 819 [_, _, _, _] [_] _
  refine ab_go ok_Lw_law 5 rfl ?_
  show ab_Z m_Lw_law _ _ _ 824 [_, _, _, _] [_, _, _, _] _
  refine ab_sx ok_Lw_law rfl (k := 6 * i + 1) (by rw [show (1 : Int32) = nI 1 from rfl, nI_add]) (by omega) (by omega) rfl ?_
  show ab_Z m_Lw_law _ _ _ 825 [_, _, _, _] [_, _, _] _
  refine ab_go ok_Lw_law 4 rfl ?_
  show ab_Z m_Lw_law _ _ _ 829 [_, _, _, _] [_, _, _, _, _] _
  refine ab_sx ok_Lw_law rfl (k := 6 * i + 2) (by rw [show (2 : Int32) = nI 2 from rfl, nI_add]) (by omega) (by omega) rfl ?_
  show ab_Z m_Lw_law _ _ _ 830 [_, _, _, _] [_, _, _, _] _
  refine ab_go ok_Lw_law 4 rfl ?_
  show ab_Z m_Lw_law _ _ _ 834 [_, _, _, _] [_, _, _, _, _, _] _
  refine ab_sx ok_Lw_law rfl (k := 6 * i + 3) (by rw [show (3 : Int32) = nI 3 from rfl, nI_add]) (by omega) (by omega) rfl ?_
  show ab_Z m_Lw_law _ _ _ 835 [_, _, _, _] [_, _, _, _, _] _
  refine ab_cl ok_Lw_law rfl [_, _, _, _] [_] rfl ⟨_, _, rfl, rfl, Or.inl ⟨_, _, rfl, rfl⟩⟩ (Nat.le_of_ble_eq_true rfl) k3 ?_
  rintro _ _ ⟨r2, s2, t2, f, rfl, rfl, rfl, rfl, hI⟩
  show ab_Z m_Lw_law _ _ _ 836 [_, _, _, _] [_, _] _
  refine ab_br ok_Lw_law rfl rfl ?_ ?_
  · intro h9
    show ab_Z m_Lw_law _ _ _ 927 [_, _, _, _] [] _
    exact nx _ _ _ hI
  · intro h9
    show ab_Z m_Lw_law _ _ _ 837 [_, _, _, _] [] _
    exact absurd rfl h9
set_option maxRecDepth 8192 in
theorem lw_look (hi : 6 * i + 6 ≤ L) (hL : L ≤ 3072) (h : INV i s t) (nx : ∀ b s t, INV (i + 1) s t → ab_Z m_Lw_law 27 (0, 0) Po 927 [some (.ref 9001), some (.ref 0), some (.ref 81), some (.int (nI (6 * i)))] [] (hq b fm (L, xs) s t)) : ab_Z m_Lw_law 27 (0, 0) Po 839 [some (.ref 9001), some (.ref 0), some (.ref 81), some (.int (nI (6 * i)))] [] (hq b fm (L, xs) s t) := by
  obtain ⟨S, T, RO, e1⟩ := hq_t b fm (L, xs) s t
  have k1 := ab_T_ei rfl (p_look (L, xs) h (xs (6 * i + 1)) (xs (6 * i + 2)) (xs (6 * i + 3))) b fm
  rw [e1] at k1 ⊢
  refine ab_go ok_Lw_law 5 rfl ?_
  show ab_Z m_Lw_law _ _ _ 844 [_, _, _, _] [_, _, _] _
  refine ab_sx ok_Lw_law rfl (k := 6 * i + 1) (by rw [show (1 : Int32) = nI 1 from rfl, nI_add]) (by omega) (by omega) rfl ?_
  show ab_Z m_Lw_law _ _ _ 845 [_, _, _, _] [_, _] _
  refine ab_go ok_Lw_law 4 rfl ?_
  show ab_Z m_Lw_law _ _ _ 849 [_, _, _, _] [_, _, _, _] _
  refine ab_sx ok_Lw_law rfl (k := 6 * i + 2) (by rw [show (2 : Int32) = nI 2 from rfl, nI_add]) (by omega) (by omega) rfl ?_
  show ab_Z m_Lw_law _ _ _ 850 [_, _, _, _] [_, _, _] _
  refine ab_go ok_Lw_law 4 rfl ?_
  show ab_Z m_Lw_law _ _ _ 854 [_, _, _, _] [_, _, _, _, _] _
  refine ab_sx ok_Lw_law rfl (k := 6 * i + 3) (by rw [show (3 : Int32) = nI 3 from rfl, nI_add]) (by omega) (by omega) rfl ?_
  show ab_Z m_Lw_law _ _ _ 855 [_, _, _, _] [_, _, _, _] _
  refine ab_cl ok_Lw_law rfl [_, _, _, _] [] rfl ⟨_, _, rfl, rfl, Or.inl ⟨_, _, rfl, rfl⟩⟩ (Nat.le_of_ble_eq_true rfl) k1 ?_
  rintro _ _ ⟨r, s1, t1, e, rfl, rfl, k2⟩
  obtain ⟨S1, T1, RO1, e2⟩ := hq_t (b ^^ e) fm (L, xs) s1 t1
  have k3 := ab_T_ei rfl k2 (b ^^ e) fm
  rw [e2] at k3 ⊢
  show ab_Z m_Lw_law _ _ _ 856 [_, _, _, _] [_] _
  refine ab_go ok_Lw_law 5 rfl ?_
  show ab_Z m_Lw_law _ _ _ 861 [_, _, _, _] [_, _, _, _] _
  refine ab_sx ok_Lw_law rfl (k := 6 * i + 1) (by rw [show (1 : Int32) = nI 1 from rfl, nI_add]) (by omega) (by omega) rfl ?_
  show ab_Z m_Lw_law _ _ _ 862 [_, _, _, _] [_, _, _] _
  refine ab_go ok_Lw_law 4 rfl ?_
  show ab_Z m_Lw_law _ _ _ 866 [_, _, _, _] [_, _, _, _, _] _
  refine ab_sx ok_Lw_law rfl (k := 6 * i + 2) (by rw [show (2 : Int32) = nI 2 from rfl, nI_add]) (by omega) (by omega) rfl ?_
  show ab_Z m_Lw_law _ _ _ 867 [_, _, _, _] [_, _, _, _] _
  refine ab_go ok_Lw_law 4 rfl ?_
  show ab_Z m_Lw_law _ _ _ 871 [_, _, _, _] [_, _, _, _, _, _] _
  refine ab_sx ok_Lw_law rfl (k := 6 * i + 3) (by rw [show (3 : Int32) = nI 3 from rfl, nI_add]) (by omega) (by omega) rfl ?_
  show ab_Z m_Lw_law _ _ _ 872 [_, _, _, _] [_, _, _, _, _] _
  refine ab_cl ok_Lw_law rfl [_, _, _, _] [_] rfl ⟨_, _, rfl, rfl, Or.inl ⟨_, _, rfl, rfl⟩⟩ (Nat.le_of_ble_eq_true rfl) k3 ?_
  rintro _ _ ⟨r2, s2, t2, f, rfl, rfl, rfl, rfl, hI⟩
  show ab_Z m_Lw_law _ _ _ 873 [_, _, _, _] [_, _] _
  refine ab_br ok_Lw_law rfl rfl ?_ ?_
  · intro h9
    show ab_Z m_Lw_law _ _ _ 927 [_, _, _, _] [] _
    exact nx _ _ _ hI
  · intro h9
    show ab_Z m_Lw_law _ _ _ 874 [_, _, _, _] [] _
    exact absurd rfl h9
set_option maxRecDepth 8192 in
theorem lw_hold (hi : 6 * i + 6 ≤ L) (hL : L ≤ 3072) (h : INV i s t) (nx : ∀ b s t, INV (i + 1) s t → ab_Z m_Lw_law 27 (0, 0) Po 927 [some (.ref 9001), some (.ref 0), some (.ref 81), some (.int (nI (6 * i)))] [] (hq b fm (L, xs) s t)) : ab_Z m_Lw_law 27 (0, 0) Po 876 [some (.ref 9001), some (.ref 0), some (.ref 81), some (.int (nI (6 * i)))] [] (hq b fm (L, xs) s t) := by
  obtain ⟨S, T, RO, e1⟩ := hq_t b fm (L, xs) s t
  have k1 := ab_T_ei rfl (p_hold (L, xs) h (xs (6 * i + 1))) b fm
  rw [e1] at k1 ⊢
  refine ab_go ok_Lw_law 5 rfl ?_
  show ab_Z m_Lw_law _ _ _ 881 [_, _, _, _] [_, _, _] _
  refine ab_sx ok_Lw_law rfl (k := 6 * i + 1) (by rw [show (1 : Int32) = nI 1 from rfl, nI_add]) (by omega) (by omega) rfl ?_
  show ab_Z m_Lw_law _ _ _ 882 [_, _, _, _] [_, _] _
  refine ab_cl ok_Lw_law rfl [_, _] [] rfl ⟨_, _, rfl, rfl, Or.inl ⟨_, _, rfl, rfl⟩⟩ (Nat.le_of_ble_eq_true rfl) k1 ?_
  rintro _ _ ⟨r, s1, t1, e, rfl, rfl, k2⟩
  obtain ⟨S1, T1, RO1, e2⟩ := hq_t (b ^^ e) fm (L, xs) s1 t1
  have k3 := ab_T_ei rfl k2 (b ^^ e) fm
  rw [e2] at k3 ⊢
  show ab_Z m_Lw_law _ _ _ 883 [_, _, _, _] [_] _
  refine ab_go ok_Lw_law 5 rfl ?_
  show ab_Z m_Lw_law _ _ _ 888 [_, _, _, _] [_, _, _, _] _
  refine ab_sx ok_Lw_law rfl (k := 6 * i + 1) (by rw [show (1 : Int32) = nI 1 from rfl, nI_add]) (by omega) (by omega) rfl ?_
  show ab_Z m_Lw_law _ _ _ 889 [_, _, _, _] [_, _, _] _
  refine ab_cl ok_Lw_law rfl [_, _] [_] rfl ⟨_, _, rfl, rfl, Or.inl ⟨_, _, rfl, rfl⟩⟩ (Nat.le_of_ble_eq_true rfl) k3 ?_
  rintro _ _ ⟨r2, s2, t2, f, rfl, rfl, rfl, rfl, hI⟩
  show ab_Z m_Lw_law _ _ _ 890 [_, _, _, _] [_, _] _
  refine ab_br ok_Lw_law rfl rfl ?_ ?_
  · intro h9
    show ab_Z m_Lw_law _ _ _ 927 [_, _, _, _] [] _
    exact nx _ _ _ hI
  · intro h9
    show ab_Z m_Lw_law _ _ _ 891 [_, _, _, _] [] _
    exact absurd rfl h9
set_option maxRecDepth 8192 in
theorem lw_restore (hi : 6 * i + 6 ≤ L) (hL : L ≤ 3072) (h : INV i s t) (nx : ∀ b s t, INV (i + 1) s t → ab_Z m_Lw_law 27 (0, 0) Po 927 [some (.ref 9001), some (.ref 0), some (.ref 81), some (.int (nI (6 * i)))] [] (hq b fm (L, xs) s t)) : ab_Z m_Lw_law 27 (0, 0) Po 893 [some (.ref 9001), some (.ref 0), some (.ref 81), some (.int (nI (6 * i)))] [] (hq b fm (L, xs) s t) := by
  obtain ⟨S, T, RO, e1⟩ := hq_t b fm (L, xs) s t
  have k1 := ab_T_ei rfl (p_restore (L, xs) (by omega) h (xs (6 * i + 1))) b fm
  rw [e1] at k1 ⊢
  refine ab_go ok_Lw_law 5 rfl ?_
  show ab_Z m_Lw_law _ _ _ 898 [_, _, _, _] [_, _, _] _
  refine ab_sx ok_Lw_law rfl (k := 6 * i + 1) (by rw [show (1 : Int32) = nI 1 from rfl, nI_add]) (by omega) (by omega) rfl ?_
  show ab_Z m_Lw_law _ _ _ 899 [_, _, _, _] [_, _] _
  refine ab_cl ok_Lw_law rfl [_, _] [] rfl ⟨_, _, rfl, rfl, Or.inl ⟨_, _, rfl, rfl⟩⟩ (Nat.le_of_ble_eq_true rfl) k1 ?_
  rintro _ _ ⟨r, s1, t1, e, rfl, rfl, k2⟩
  obtain ⟨S1, T1, RO1, e2⟩ := hq_t (b ^^ e) fm (L, xs) s1 t1
  have k3 := ab_T_ei rfl k2 (b ^^ e) fm
  rw [e2] at k3 ⊢
  show ab_Z m_Lw_law _ _ _ 900 [_, _, _, _] [_] _
  refine ab_go ok_Lw_law 5 rfl ?_
  show ab_Z m_Lw_law _ _ _ 905 [_, _, _, _] [_, _, _, _] _
  refine ab_sx ok_Lw_law rfl (k := 6 * i + 1) (by rw [show (1 : Int32) = nI 1 from rfl, nI_add]) (by omega) (by omega) rfl ?_
  show ab_Z m_Lw_law _ _ _ 906 [_, _, _, _] [_, _, _] _
  refine ab_cl ok_Lw_law rfl [_, _] [_] rfl ⟨_, _, rfl, rfl, Or.inl ⟨_, _, rfl, rfl⟩⟩ (Nat.le_of_ble_eq_true rfl) k3 ?_
  rintro _ _ ⟨r2, s2, t2, f, rfl, rfl, rfl, rfl, hI⟩
  show ab_Z m_Lw_law _ _ _ 907 [_, _, _, _] [_, _] _
  refine ab_br ok_Lw_law rfl rfl ?_ ?_
  · intro h9
    show ab_Z m_Lw_law _ _ _ 927 [_, _, _, _] [] _
    exact nx _ _ _ hI
  · intro h9
    show ab_Z m_Lw_law _ _ _ 908 [_, _, _, _] [] _
    exact absurd rfl h9
set_option maxRecDepth 8192 in
theorem lw_count (hi : 6 * i + 6 ≤ L) (hL : L ≤ 3072) (h : INV i s t) (nx : ∀ b s t, INV (i + 1) s t → ab_Z m_Lw_law 27 (0, 0) Po 927 [some (.ref 9001), some (.ref 0), some (.ref 81), some (.int (nI (6 * i)))] [] (hq b fm (L, xs) s t)) : ab_Z m_Lw_law 27 (0, 0) Po 910 [some (.ref 9001), some (.ref 0), some (.ref 81), some (.int (nI (6 * i)))] [] (hq b fm (L, xs) s t) := by
  obtain ⟨S, T, RO, e1⟩ := hq_t b fm (L, xs) s t
  have k1 := ab_T_ei rfl (p_count (L, xs) h (xs (6 * i + 1))) b fm
  rw [e1] at k1 ⊢
  refine ab_go ok_Lw_law 5 rfl ?_
  show ab_Z m_Lw_law _ _ _ 915 [_, _, _, _] [_, _, _] _
  refine ab_sx ok_Lw_law rfl (k := 6 * i + 1) (by rw [show (1 : Int32) = nI 1 from rfl, nI_add]) (by omega) (by omega) rfl ?_
  show ab_Z m_Lw_law _ _ _ 916 [_, _, _, _] [_, _] _
  refine ab_cl ok_Lw_law rfl [_, _] [] rfl ⟨_, _, rfl, rfl, Or.inl ⟨_, _, rfl, rfl⟩⟩ (Nat.le_of_ble_eq_true rfl) k1 ?_
  rintro _ _ ⟨r, s1, t1, e, rfl, rfl, k2⟩
  obtain ⟨S1, T1, RO1, e2⟩ := hq_t (b ^^ e) fm (L, xs) s1 t1
  have k3 := ab_T_ei rfl k2 (b ^^ e) fm
  rw [e2] at k3 ⊢
  show ab_Z m_Lw_law _ _ _ 917 [_, _, _, _] [_] _
  refine ab_go ok_Lw_law 5 rfl ?_
  show ab_Z m_Lw_law _ _ _ 922 [_, _, _, _] [_, _, _, _] _
  refine ab_sx ok_Lw_law rfl (k := 6 * i + 1) (by rw [show (1 : Int32) = nI 1 from rfl, nI_add]) (by omega) (by omega) rfl ?_
  show ab_Z m_Lw_law _ _ _ 923 [_, _, _, _] [_, _, _] _
  refine ab_cl ok_Lw_law rfl [_, _] [_] rfl ⟨_, _, rfl, rfl, Or.inl ⟨_, _, rfl, rfl⟩⟩ (Nat.le_of_ble_eq_true rfl) k3 ?_
  rintro _ _ ⟨r2, s2, t2, f, rfl, rfl, rfl, rfl, hI⟩
  show ab_Z m_Lw_law _ _ _ 924 [_, _, _, _] [_, _] _
  refine ab_br ok_Lw_law rfl rfl ?_ ?_
  · intro h9
    show ab_Z m_Lw_law _ _ _ 927 [_, _, _, _] [] _
    exact nx _ _ _ hI
  · intro h9
    show ab_Z m_Lw_law _ _ _ 925 [_, _, _, _] [] _
    exact absurd rfl h9
end

