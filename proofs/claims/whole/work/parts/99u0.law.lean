/-! the law: cases 0 .. 8 (written by gen_law.py) -/
theorem hq_t (b : Bool) (fm : Value) (X : Nat × (Nat → Int32)) (s : Nat → Nat → Int32) (t : Nat → Nat → Int64) : ∃ S T R, hq b fm X s t = (shA, S, T, R, X) := by
  cases b
  · exact ⟨_, _, _, rfl⟩
  · exact ⟨_, _, _, rfl⟩
theorem ab_sx {M : ab_M} {d : Nat} {b : Nat × Nat} {Po : Option Value → ab_H → Prop} {i nx : Nat} {L : ab_L} {sh : List (Nat × Nat)} {sg : Nat → Nat → Int32} {ta : Nat → Nat → Int64} {ro : Nat → Nat → Value} {xn : Nat} {xs : Nat → Int32} {k : Nat} {j : Int32} {r : List Value} (ok : ab_ok M 0 (ab_cd M)) (hA : (ab_cd M)[i]? = some (.inl (aIA nx))) (hj : j = nI k) (hk : k < xn) (hn : xn ≤ 100000) (hs : sh[9001]? = none) (k1 : ab_Z M d b Po nx (ab_mk M nx L) (.int (xs k) :: r) (sh, sg, ta, ro, xn, xs)) : ab_Z M d b Po i L (.int j :: .ref 9001 :: r) (sh, sg, ta, ro, xn, xs) := by
  subst hj
  refine ab_ck ok hA (C := 0 ≤ (nI k).toInt ∧ (nI k).toInt < (xn : Int)) (i1 := nx) (L1 := L) (st1 := .int (xs (nI k).toNatClampNeg) :: r) (h1 := (sh, sg, ta, ro, xn, xs)) ?_ ?_ ?_
  · simp only [aIA, hs]
    rfl
  · rw [nI_t (by omega)]; omega
  · rw [nI_c (by omega)]; exact k1
section
variable {i L : Nat} {xs : Nat → Int32} {fm : Value} {s : Nat → Nat → Int32} {t : Nat → Nat → Int64} {b : Bool} {Po : Option Value → ab_H → Prop}
set_option maxRecDepth 8192 in
theorem lw_feed (hi : 6 * i + 6 ≤ L) (hL : L ≤ 3072) (h : INV i s t) (nx : ∀ b s t, INV (i + 1) s t → ab_Z m_Lw_law 27 (0, 0) Po 927 [some (.ref 9001), some (.ref 0), some (.ref 81), some (.int (nI (6 * i)))] [] (hq b fm (L, xs) s t)) : ab_Z m_Lw_law 27 (0, 0) Po 22 [some (.ref 9001), some (.ref 0), some (.ref 81), some (.int (nI (6 * i)))] [] (hq b fm (L, xs) s t) := by
  obtain ⟨S, T, RO, e1⟩ := hq_t b fm (L, xs) s t
  have k1 := ab_T_ei rfl (p_feed (L, xs) h (xs (6 * i + 1)) (xs (6 * i + 2)) (xs (6 * i + 3)) (xs (6 * i + 4)) (xs (6 * i + 5))) b fm
  rw [e1] at k1 ⊢
  refine ab_go ok_Lw_law 5 rfl ?_
  show ab_Z m_Lw_law _ _ _ 27 [_, _, _, _] [_, _, _] _
  refine ab_sx ok_Lw_law rfl (k := 6 * i + 1) (by rw [show (1 : Int32) = nI 1 from rfl, nI_add]) (by omega) (by omega) rfl ?_
  show ab_Z m_Lw_law _ _ _ 28 [_, _, _, _] [_, _] _
  refine ab_go ok_Lw_law 4 rfl ?_
  show ab_Z m_Lw_law _ _ _ 32 [_, _, _, _] [_, _, _, _] _
  refine ab_sx ok_Lw_law rfl (k := 6 * i + 2) (by rw [show (2 : Int32) = nI 2 from rfl, nI_add]) (by omega) (by omega) rfl ?_
  show ab_Z m_Lw_law _ _ _ 33 [_, _, _, _] [_, _, _] _
  refine ab_go ok_Lw_law 4 rfl ?_
  show ab_Z m_Lw_law _ _ _ 37 [_, _, _, _] [_, _, _, _, _] _
  refine ab_sx ok_Lw_law rfl (k := 6 * i + 3) (by rw [show (3 : Int32) = nI 3 from rfl, nI_add]) (by omega) (by omega) rfl ?_
  show ab_Z m_Lw_law _ _ _ 38 [_, _, _, _] [_, _, _, _] _
  refine ab_go ok_Lw_law 4 rfl ?_
  show ab_Z m_Lw_law _ _ _ 42 [_, _, _, _] [_, _, _, _, _, _] _
  refine ab_sx ok_Lw_law rfl (k := 6 * i + 4) (by rw [show (4 : Int32) = nI 4 from rfl, nI_add]) (by omega) (by omega) rfl ?_
  show ab_Z m_Lw_law _ _ _ 43 [_, _, _, _] [_, _, _, _, _] _
  refine ab_go ok_Lw_law 4 rfl ?_
  show ab_Z m_Lw_law _ _ _ 47 [_, _, _, _] [_, _, _, _, _, _, _] _
  refine ab_sx ok_Lw_law rfl (k := 6 * i + 5) (by rw [show (5 : Int32) = nI 5 from rfl, nI_add]) (by omega) (by omega) rfl ?_
  show ab_Z m_Lw_law _ _ _ 48 [_, _, _, _] [_, _, _, _, _, _] _
  refine ab_cl ok_Lw_law rfl [_, _, _, _, _, _] [] rfl ⟨_, _, rfl, rfl, Or.inl ⟨_, _, rfl, rfl⟩⟩ (Nat.le_of_ble_eq_true rfl) k1 ?_
  rintro _ _ ⟨r, s1, t1, e, rfl, rfl, k2⟩
  obtain ⟨S1, T1, RO1, e2⟩ := hq_t (b ^^ e) fm (L, xs) s1 t1
  have k3 := ab_T_ei rfl k2 (b ^^ e) fm
  rw [e2] at k3 ⊢
  show ab_Z m_Lw_law _ _ _ 49 [_, _, _, _] [_] _
  refine ab_go ok_Lw_law 5 rfl ?_
  show ab_Z m_Lw_law _ _ _ 54 [_, _, _, _] [_, _, _, _] _
  refine ab_sx ok_Lw_law rfl (k := 6 * i + 1) (by rw [show (1 : Int32) = nI 1 from rfl, nI_add]) (by omega) (by omega) rfl ?_
  show ab_Z m_Lw_law _ _ _ 55 [_, _, _, _] [_, _, _] _
  refine ab_go ok_Lw_law 4 rfl ?_
  show ab_Z m_Lw_law _ _ _ 59 [_, _, _, _] [_, _, _, _, _] _
  refine ab_sx ok_Lw_law rfl (k := 6 * i + 2) (by rw [show (2 : Int32) = nI 2 from rfl, nI_add]) (by omega) (by omega) rfl ?_
  show ab_Z m_Lw_law _ _ _ 60 [_, _, _, _] [_, _, _, _] _
  refine ab_go ok_Lw_law 4 rfl ?_
  show ab_Z m_Lw_law _ _ _ 64 [_, _, _, _] [_, _, _, _, _, _] _
  refine ab_sx ok_Lw_law rfl (k := 6 * i + 3) (by rw [show (3 : Int32) = nI 3 from rfl, nI_add]) (by omega) (by omega) rfl ?_
  show ab_Z m_Lw_law _ _ _ 65 [_, _, _, _] [_, _, _, _, _] _
  refine ab_go ok_Lw_law 4 rfl ?_
  show ab_Z m_Lw_law _ _ _ 69 [_, _, _, _] [_, _, _, _, _, _, _] _
  refine ab_sx ok_Lw_law rfl (k := 6 * i + 4) (by rw [show (4 : Int32) = nI 4 from rfl, nI_add]) (by omega) (by omega) rfl ?_
  show ab_Z m_Lw_law _ _ _ 70 [_, _, _, _] [_, _, _, _, _, _] _
  refine ab_go ok_Lw_law 4 rfl ?_
  show ab_Z m_Lw_law _ _ _ 74 [_, _, _, _] [_, _, _, _, _, _, _, _] _
  refine ab_sx ok_Lw_law rfl (k := 6 * i + 5) (by rw [show (5 : Int32) = nI 5 from rfl, nI_add]) (by omega) (by omega) rfl ?_
  show ab_Z m_Lw_law _ _ _ 75 [_, _, _, _] [_, _, _, _, _, _, _] _
  refine ab_cl ok_Lw_law rfl [_, _, _, _, _, _] [_] rfl ⟨_, _, rfl, rfl, Or.inl ⟨_, _, rfl, rfl⟩⟩ (Nat.le_of_ble_eq_true rfl) k3 ?_
  rintro _ _ ⟨r2, s2, t2, f, rfl, rfl, rfl, rfl, hI⟩
  show ab_Z m_Lw_law _ _ _ 76 [_, _, _, _] [_, _] _
  refine ab_br ok_Lw_law rfl rfl ?_ ?_
  · intro h9
    show ab_Z m_Lw_law _ _ _ 927 [_, _, _, _] [] _
    exact nx _ _ _ hI
  · intro h9
    show ab_Z m_Lw_law _ _ _ 77 [_, _, _, _] [] _
    exact absurd rfl h9
set_option maxRecDepth 8192 in
theorem lw_back (hi : 6 * i + 6 ≤ L) (hL : L ≤ 3072) (h : INV i s t) (nx : ∀ b s t, INV (i + 1) s t → ab_Z m_Lw_law 27 (0, 0) Po 927 [some (.ref 9001), some (.ref 0), some (.ref 81), some (.int (nI (6 * i)))] [] (hq b fm (L, xs) s t)) : ab_Z m_Lw_law 27 (0, 0) Po 79 [some (.ref 9001), some (.ref 0), some (.ref 81), some (.int (nI (6 * i)))] [] (hq b fm (L, xs) s t) := by
  obtain ⟨S, T, RO, e1⟩ := hq_t b fm (L, xs) s t
  have k1 := ab_T_ei rfl (p_back (L, xs) h (xs (6 * i + 1))) b fm
  rw [e1] at k1 ⊢
  refine ab_go ok_Lw_law 5 rfl ?_
  show ab_Z m_Lw_law _ _ _ 84 [_, _, _, _] [_, _, _] _
  refine ab_sx ok_Lw_law rfl (k := 6 * i + 1) (by rw [show (1 : Int32) = nI 1 from rfl, nI_add]) (by omega) (by omega) rfl ?_
  show ab_Z m_Lw_law _ _ _ 85 [_, _, _, _] [_, _] _
  refine ab_cl ok_Lw_law rfl [_, _] [] rfl ⟨_, _, rfl, rfl, Or.inl ⟨_, _, rfl, rfl⟩⟩ (Nat.le_of_ble_eq_true rfl) k1 ?_
  rintro _ _ ⟨r, s1, t1, e, rfl, rfl, k2⟩
  obtain ⟨S1, T1, RO1, e2⟩ := hq_t (b ^^ e) fm (L, xs) s1 t1
  have k3 := ab_T_ei rfl k2 (b ^^ e) fm
  rw [e2] at k3 ⊢
  show ab_Z m_Lw_law _ _ _ 86 [_, _, _, _] [_] _
  refine ab_go ok_Lw_law 5 rfl ?_
  show ab_Z m_Lw_law _ _ _ 91 [_, _, _, _] [_, _, _, _] _
  refine ab_sx ok_Lw_law rfl (k := 6 * i + 1) (by rw [show (1 : Int32) = nI 1 from rfl, nI_add]) (by omega) (by omega) rfl ?_
  show ab_Z m_Lw_law _ _ _ 92 [_, _, _, _] [_, _, _] _
  refine ab_cl ok_Lw_law rfl [_, _] [_] rfl ⟨_, _, rfl, rfl, Or.inl ⟨_, _, rfl, rfl⟩⟩ (Nat.le_of_ble_eq_true rfl) k3 ?_
  rintro _ _ ⟨r2, s2, t2, f, rfl, rfl, rfl, rfl, hI⟩
  show ab_Z m_Lw_law _ _ _ 93 [_, _, _, _] [_, _] _
  refine ab_br ok_Lw_law rfl rfl ?_ ?_
  · intro h9
    show ab_Z m_Lw_law _ _ _ 927 [_, _, _, _] [] _
    exact nx _ _ _ hI
  · intro h9
    show ab_Z m_Lw_law _ _ _ 94 [_, _, _, _] [] _
    exact absurd rfl h9
set_option maxRecDepth 8192 in
theorem lw_read (hi : 6 * i + 6 ≤ L) (hL : L ≤ 3072) (h : INV i s t) (nx : ∀ b s t, INV (i + 1) s t → ab_Z m_Lw_law 27 (0, 0) Po 927 [some (.ref 9001), some (.ref 0), some (.ref 81), some (.int (nI (6 * i)))] [] (hq b fm (L, xs) s t)) : ab_Z m_Lw_law 27 (0, 0) Po 96 [some (.ref 9001), some (.ref 0), some (.ref 81), some (.int (nI (6 * i)))] [] (hq b fm (L, xs) s t) := by
  obtain ⟨S, T, RO, e1⟩ := hq_t b fm (L, xs) s t
  have k1 := ab_T_ei rfl (p_read (L, xs) (by omega) h ) b fm
  rw [e1] at k1 ⊢
  refine ab_go ok_Lw_law 1 rfl ?_
  show ab_Z m_Lw_law _ _ _ 97 [_, _, _, _] [_] _
  refine ab_cl ok_Lw_law rfl [_] [] rfl ⟨_, _, rfl, rfl, Or.inl ⟨_, _, rfl, rfl⟩⟩ (Nat.le_of_ble_eq_true rfl) k1 ?_
  rintro _ _ ⟨r, s1, t1, e, rfl, rfl, k2⟩
  obtain ⟨S1, T1, RO1, e2⟩ := hq_t (b ^^ e) fm (L, xs) s1 t1
  have k3 := ab_T_ei rfl k2 (b ^^ e) fm
  rw [e2] at k3 ⊢
  show ab_Z m_Lw_law _ _ _ 98 [_, _, _, _] [_] _
  refine ab_go ok_Lw_law 1 rfl ?_
  show ab_Z m_Lw_law _ _ _ 99 [_, _, _, _] [_, _] _
  refine ab_cl ok_Lw_law rfl [_] [_] rfl ⟨_, _, rfl, rfl, Or.inl ⟨_, _, rfl, rfl⟩⟩ (Nat.le_of_ble_eq_true rfl) k3 ?_
  rintro _ _ ⟨r2, s2, t2, f, rfl, rfl, rfl, rfl, hI⟩
  show ab_Z m_Lw_law _ _ _ 100 [_, _, _, _] [_, _] _
  refine ab_br ok_Lw_law rfl rfl ?_ ?_
  · intro h9
    show ab_Z m_Lw_law _ _ _ 927 [_, _, _, _] [] _
    exact nx _ _ _ hI
  · intro h9
    show ab_Z m_Lw_law _ _ _ 101 [_, _, _, _] [] _
    exact absurd rfl h9
set_option maxRecDepth 8192 in
theorem lw_place (hi : 6 * i + 6 ≤ L) (hL : L ≤ 3072) (h : INV i s t) (nx : ∀ b s t, INV (i + 1) s t → ab_Z m_Lw_law 27 (0, 0) Po 927 [some (.ref 9001), some (.ref 0), some (.ref 81), some (.int (nI (6 * i)))] [] (hq b fm (L, xs) s t)) : ab_Z m_Lw_law 27 (0, 0) Po 103 [some (.ref 9001), some (.ref 0), some (.ref 81), some (.int (nI (6 * i)))] [] (hq b fm (L, xs) s t) := by
  obtain ⟨S, T, RO, e1⟩ := hq_t b fm (L, xs) s t
  have k1 := ab_T_ei rfl (p_place (L, xs) h ) b fm
  rw [e1] at k1 ⊢
  refine ab_go ok_Lw_law 1 rfl ?_
  show ab_Z m_Lw_law _ _ _ 104 [_, _, _, _] [_] _
  refine ab_cl ok_Lw_law rfl [_] [] rfl ⟨_, _, rfl, rfl, Or.inl ⟨_, _, rfl, rfl⟩⟩ (Nat.le_of_ble_eq_true rfl) k1 ?_
  rintro _ _ ⟨r, s1, t1, e, rfl, rfl, k2⟩
  obtain ⟨S1, T1, RO1, e2⟩ := hq_t (b ^^ e) fm (L, xs) s1 t1
  have k3 := ab_T_ei rfl k2 (b ^^ e) fm
  rw [e2] at k3 ⊢
  show ab_Z m_Lw_law _ _ _ 105 [_, _, _, _] [_] _
  refine ab_go ok_Lw_law 1 rfl ?_
  show ab_Z m_Lw_law _ _ _ 106 [_, _, _, _] [_, _] _
  refine ab_cl ok_Lw_law rfl [_] [_] rfl ⟨_, _, rfl, rfl, Or.inl ⟨_, _, rfl, rfl⟩⟩ (Nat.le_of_ble_eq_true rfl) k3 ?_
  rintro _ _ ⟨r2, s2, t2, f, rfl, rfl, rfl, rfl, hI⟩
  show ab_Z m_Lw_law _ _ _ 107 [_, _, _, _] [_, _] _
  refine ab_br ok_Lw_law rfl rfl ?_ ?_
  · intro h9
    show ab_Z m_Lw_law _ _ _ 927 [_, _, _, _] [] _
    exact nx _ _ _ hI
  · intro h9
    show ab_Z m_Lw_law _ _ _ 108 [_, _, _, _] [] _
    exact absurd rfl h9
set_option maxRecDepth 8192 in
theorem lw_clerk (hi : 6 * i + 6 ≤ L) (hL : L ≤ 3072) (h : INV i s t) (nx : ∀ b s t, INV (i + 1) s t → ab_Z m_Lw_law 27 (0, 0) Po 927 [some (.ref 9001), some (.ref 0), some (.ref 81), some (.int (nI (6 * i)))] [] (hq b fm (L, xs) s t)) : ab_Z m_Lw_law 27 (0, 0) Po 110 [some (.ref 9001), some (.ref 0), some (.ref 81), some (.int (nI (6 * i)))] [] (hq b fm (L, xs) s t) := by
  obtain ⟨S, T, RO, e1⟩ := hq_t b fm (L, xs) s t
  have k1 := ab_T_ei rfl (p_clerk (L, xs) h (xs (6 * i + 1)) (xs (6 * i + 2))) b fm
  rw [e1] at k1 ⊢
  refine ab_go ok_Lw_law 5 rfl ?_
  show ab_Z m_Lw_law _ _ _ 115 [_, _, _, _] [_, _, _] _
  refine ab_sx ok_Lw_law rfl (k := 6 * i + 1) (by rw [show (1 : Int32) = nI 1 from rfl, nI_add]) (by omega) (by omega) rfl ?_
  show ab_Z m_Lw_law _ _ _ 116 [_, _, _, _] [_, _] _
  refine ab_go ok_Lw_law 4 rfl ?_
  show ab_Z m_Lw_law _ _ _ 120 [_, _, _, _] [_, _, _, _] _
  refine ab_sx ok_Lw_law rfl (k := 6 * i + 2) (by rw [show (2 : Int32) = nI 2 from rfl, nI_add]) (by omega) (by omega) rfl ?_
  show ab_Z m_Lw_law _ _ _ 121 [_, _, _, _] [_, _, _] _
  refine ab_cl ok_Lw_law rfl [_, _, _] [] rfl ⟨_, _, rfl, rfl, Or.inl ⟨_, _, rfl, rfl⟩⟩ (Nat.le_of_ble_eq_true rfl) k1 ?_
  rintro _ _ ⟨r, s1, t1, e, rfl, rfl, k2⟩
  obtain ⟨S1, T1, RO1, e2⟩ := hq_t (b ^^ e) fm (L, xs) s1 t1
  have k3 := ab_T_ei rfl k2 (b ^^ e) fm
  rw [e2] at k3 ⊢
  show ab_Z m_Lw_law _ _ _ 122 [_, _, _, _] [_] _
  refine ab_go ok_Lw_law 5 rfl ?_
  show ab_Z m_Lw_law _ _ _ 127 [_, _, _, _] [_, _, _, _] _
  refine ab_sx ok_Lw_law rfl (k := 6 * i + 1) (by rw [show (1 : Int32) = nI 1 from rfl, nI_add]) (by omega) (by omega) rfl ?_
  show ab_Z m_Lw_law _ _ _ 128 [_, _, _, _] [_, _, _] _
  refine ab_go ok_Lw_law 4 rfl ?_
  show ab_Z m_Lw_law _ _ _ 132 [_, _, _, _] [_, _, _, _, _] _
  refine ab_sx ok_Lw_law rfl (k := 6 * i + 2) (by rw [show (2 : Int32) = nI 2 from rfl, nI_add]) (by omega) (by omega) rfl ?_
  show ab_Z m_Lw_law _ _ _ 133 [_, _, _, _] [_, _, _, _] _
  refine ab_cl ok_Lw_law rfl [_, _, _] [_] rfl ⟨_, _, rfl, rfl, Or.inl ⟨_, _, rfl, rfl⟩⟩ (Nat.le_of_ble_eq_true rfl) k3 ?_
  rintro _ _ ⟨r2, s2, t2, f, rfl, rfl, rfl, rfl, hI⟩
  show ab_Z m_Lw_law _ _ _ 134 [_, _, _, _] [_, _] _
  refine ab_br ok_Lw_law rfl rfl ?_ ?_
  · intro h9
    show ab_Z m_Lw_law _ _ _ 927 [_, _, _, _] [] _
    exact nx _ _ _ hI
  · intro h9
    show ab_Z m_Lw_law _ _ _ 135 [_, _, _, _] [] _
    exact absurd rfl h9
set_option maxRecDepth 8192 in
theorem lw_deed (hi : 6 * i + 6 ≤ L) (hL : L ≤ 3072) (h : INV i s t) (nx : ∀ b s t, INV (i + 1) s t → ab_Z m_Lw_law 27 (0, 0) Po 927 [some (.ref 9001), some (.ref 0), some (.ref 81), some (.int (nI (6 * i)))] [] (hq b fm (L, xs) s t)) : ab_Z m_Lw_law 27 (0, 0) Po 137 [some (.ref 9001), some (.ref 0), some (.ref 81), some (.int (nI (6 * i)))] [] (hq b fm (L, xs) s t) := by
  obtain ⟨S, T, RO, e1⟩ := hq_t b fm (L, xs) s t
  have k1 := ab_T_ei rfl (p_deed (L, xs) h (xs (6 * i + 1)) (xs (6 * i + 2))) b fm
  rw [e1] at k1 ⊢
  refine ab_go ok_Lw_law 5 rfl ?_
  show ab_Z m_Lw_law _ _ _ 142 [_, _, _, _] [_, _, _] _
  refine ab_sx ok_Lw_law rfl (k := 6 * i + 1) (by rw [show (1 : Int32) = nI 1 from rfl, nI_add]) (by omega) (by omega) rfl ?_
  show ab_Z m_Lw_law _ _ _ 143 [_, _, _, _] [_, _] _
  refine ab_go ok_Lw_law 4 rfl ?_
  show ab_Z m_Lw_law _ _ _ 147 [_, _, _, _] [_, _, _, _] _
  refine ab_sx ok_Lw_law rfl (k := 6 * i + 2) (by rw [show (2 : Int32) = nI 2 from rfl, nI_add]) (by omega) (by omega) rfl ?_
  show ab_Z m_Lw_law _ _ _ 148 [_, _, _, _] [_, _, _] _
  refine ab_cl ok_Lw_law rfl [_, _, _] [] rfl ⟨_, _, rfl, rfl, Or.inl ⟨_, _, rfl, rfl⟩⟩ (Nat.le_of_ble_eq_true rfl) k1 ?_
  rintro _ _ ⟨r, s1, t1, e, rfl, rfl, k2⟩
  obtain ⟨S1, T1, RO1, e2⟩ := hq_t (b ^^ e) fm (L, xs) s1 t1
  have k3 := ab_T_ei rfl k2 (b ^^ e) fm
  rw [e2] at k3 ⊢
  show ab_Z m_Lw_law _ _ _ 149 [_, _, _, _] [_] _
  refine ab_go ok_Lw_law 5 rfl ?_
  show ab_Z m_Lw_law _ _ _ 154 [_, _, _, _] [_, _, _, _] _
  refine ab_sx ok_Lw_law rfl (k := 6 * i + 1) (by rw [show (1 : Int32) = nI 1 from rfl, nI_add]) (by omega) (by omega) rfl ?_
  show ab_Z m_Lw_law _ _ _ 155 [_, _, _, _] [_, _, _] _
  refine ab_go ok_Lw_law 4 rfl ?_
  show ab_Z m_Lw_law _ _ _ 159 [_, _, _, _] [_, _, _, _, _] _
  refine ab_sx ok_Lw_law rfl (k := 6 * i + 2) (by rw [show (2 : Int32) = nI 2 from rfl, nI_add]) (by omega) (by omega) rfl ?_
  show ab_Z m_Lw_law _ _ _ 160 [_, _, _, _] [_, _, _, _] _
  refine ab_cl ok_Lw_law rfl [_, _, _] [_] rfl ⟨_, _, rfl, rfl, Or.inl ⟨_, _, rfl, rfl⟩⟩ (Nat.le_of_ble_eq_true rfl) k3 ?_
  rintro _ _ ⟨r2, s2, t2, f, rfl, rfl, rfl, rfl, hI⟩
  show ab_Z m_Lw_law _ _ _ 161 [_, _, _, _] [_, _] _
  refine ab_br ok_Lw_law rfl rfl ?_ ?_
  · intro h9
    show ab_Z m_Lw_law _ _ _ 927 [_, _, _, _] [] _
    exact nx _ _ _ hI
  · intro h9
    show ab_Z m_Lw_law _ _ _ 162 [_, _, _, _] [] _
    exact absurd rfl h9
set_option maxRecDepth 8192 in
theorem lw_treaty (hi : 6 * i + 6 ≤ L) (hL : L ≤ 3072) (h : INV i s t) (nx : ∀ b s t, INV (i + 1) s t → ab_Z m_Lw_law 27 (0, 0) Po 927 [some (.ref 9001), some (.ref 0), some (.ref 81), some (.int (nI (6 * i)))] [] (hq b fm (L, xs) s t)) : ab_Z m_Lw_law 27 (0, 0) Po 164 [some (.ref 9001), some (.ref 0), some (.ref 81), some (.int (nI (6 * i)))] [] (hq b fm (L, xs) s t) := by
  obtain ⟨S, T, RO, e1⟩ := hq_t b fm (L, xs) s t
  have k1 := ab_T_ei rfl (p_treaty (L, xs) h (xs (6 * i + 1)) (xs (6 * i + 2))) b fm
  rw [e1] at k1 ⊢
  refine ab_go ok_Lw_law 5 rfl ?_
  show ab_Z m_Lw_law _ _ _ 169 [_, _, _, _] [_, _, _] _
  refine ab_sx ok_Lw_law rfl (k := 6 * i + 1) (by rw [show (1 : Int32) = nI 1 from rfl, nI_add]) (by omega) (by omega) rfl ?_
  show ab_Z m_Lw_law _ _ _ 170 [_, _, _, _] [_, _] _
  refine ab_go ok_Lw_law 4 rfl ?_
  show ab_Z m_Lw_law _ _ _ 174 [_, _, _, _] [_, _, _, _] _
  refine ab_sx ok_Lw_law rfl (k := 6 * i + 2) (by rw [show (2 : Int32) = nI 2 from rfl, nI_add]) (by omega) (by omega) rfl ?_
  show ab_Z m_Lw_law _ _ _ 175 [_, _, _, _] [_, _, _] _
  refine ab_cl ok_Lw_law rfl [_, _, _] [] rfl ⟨_, _, rfl, rfl, Or.inl ⟨_, _, rfl, rfl⟩⟩ (Nat.le_of_ble_eq_true rfl) k1 ?_
  rintro _ _ ⟨r, s1, t1, e, rfl, rfl, k2⟩
  obtain ⟨S1, T1, RO1, e2⟩ := hq_t (b ^^ e) fm (L, xs) s1 t1
  have k3 := ab_T_ei rfl k2 (b ^^ e) fm
  rw [e2] at k3 ⊢
  show ab_Z m_Lw_law _ _ _ 176 [_, _, _, _] [_] _
  refine ab_go ok_Lw_law 5 rfl ?_
  show ab_Z m_Lw_law _ _ _ 181 [_, _, _, _] [_, _, _, _] _
  refine ab_sx ok_Lw_law rfl (k := 6 * i + 1) (by rw [show (1 : Int32) = nI 1 from rfl, nI_add]) (by omega) (by omega) rfl ?_
  show ab_Z m_Lw_law _ _ _ 182 [_, _, _, _] [_, _, _] _
  refine ab_go ok_Lw_law 4 rfl ?_
  show ab_Z m_Lw_law _ _ _ 186 [_, _, _, _] [_, _, _, _, _] _
  refine ab_sx ok_Lw_law rfl (k := 6 * i + 2) (by rw [show (2 : Int32) = nI 2 from rfl, nI_add]) (by omega) (by omega) rfl ?_
  show ab_Z m_Lw_law _ _ _ 187 [_, _, _, _] [_, _, _, _] _
  refine ab_cl ok_Lw_law rfl [_, _, _] [_] rfl ⟨_, _, rfl, rfl, Or.inl ⟨_, _, rfl, rfl⟩⟩ (Nat.le_of_ble_eq_true rfl) k3 ?_
  rintro _ _ ⟨r2, s2, t2, f, rfl, rfl, rfl, rfl, hI⟩
  show ab_Z m_Lw_law _ _ _ 188 [_, _, _, _] [_, _] _
  refine ab_br ok_Lw_law rfl rfl ?_ ?_
  · intro h9
    show ab_Z m_Lw_law _ _ _ 927 [_, _, _, _] [] _
    exact nx _ _ _ hI
  · intro h9
    show ab_Z m_Lw_law _ _ _ 189 [_, _, _, _] [] _
    exact absurd rfl h9
set_option maxRecDepth 8192 in
theorem lw_takes (hi : 6 * i + 6 ≤ L) (hL : L ≤ 3072) (h : INV i s t) (nx : ∀ b s t, INV (i + 1) s t → ab_Z m_Lw_law 27 (0, 0) Po 927 [some (.ref 9001), some (.ref 0), some (.ref 81), some (.int (nI (6 * i)))] [] (hq b fm (L, xs) s t)) : ab_Z m_Lw_law 27 (0, 0) Po 191 [some (.ref 9001), some (.ref 0), some (.ref 81), some (.int (nI (6 * i)))] [] (hq b fm (L, xs) s t) := by
  obtain ⟨S, T, RO, e1⟩ := hq_t b fm (L, xs) s t
  have k1 := ab_T_ei rfl (p_takes (L, xs) h (xs (6 * i + 1)) (xs (6 * i + 2)) (xs (6 * i + 3))) b fm
  rw [e1] at k1 ⊢
  refine ab_go ok_Lw_law 5 rfl ?_
  show ab_Z m_Lw_law _ _ _ 196 [_, _, _, _] [_, _, _] _
  refine ab_sx ok_Lw_law rfl (k := 6 * i + 1) (by rw [show (1 : Int32) = nI 1 from rfl, nI_add]) (by omega) (by omega) rfl ?_
  show ab_Z m_Lw_law _ _ _ 197 [_, _, _, _] [_, _] _
  refine ab_go ok_Lw_law 4 rfl ?_
  show ab_Z m_Lw_law _ _ _ 201 [_, _, _, _] [_, _, _, _] _
  refine ab_sx ok_Lw_law rfl (k := 6 * i + 2) (by rw [show (2 : Int32) = nI 2 from rfl, nI_add]) (by omega) (by omega) rfl ?_
  show ab_Z m_Lw_law _ _ _ 202 [_, _, _, _] [_, _, _] _
  refine ab_go ok_Lw_law 4 rfl ?_
  show ab_Z m_Lw_law _ _ _ 206 [_, _, _, _] [_, _, _, _, _] _
  refine ab_sx ok_Lw_law rfl (k := 6 * i + 3) (by rw [show (3 : Int32) = nI 3 from rfl, nI_add]) (by omega) (by omega) rfl ?_
  show ab_Z m_Lw_law _ _ _ 207 [_, _, _, _] [_, _, _, _] _
  refine ab_cl ok_Lw_law rfl [_, _, _, _] [] rfl ⟨_, _, rfl, rfl, Or.inl ⟨_, _, rfl, rfl⟩⟩ (Nat.le_of_ble_eq_true rfl) k1 ?_
  rintro _ _ ⟨r, s1, t1, e, rfl, rfl, k2⟩
  obtain ⟨S1, T1, RO1, e2⟩ := hq_t (b ^^ e) fm (L, xs) s1 t1
  have k3 := ab_T_ei rfl k2 (b ^^ e) fm
  rw [e2] at k3 ⊢
  show ab_Z m_Lw_law _ _ _ 208 [_, _, _, _] [_] _
  refine ab_go ok_Lw_law 5 rfl ?_
  show ab_Z m_Lw_law _ _ _ 213 [_, _, _, _] [_, _, _, _] _
  refine ab_sx ok_Lw_law rfl (k := 6 * i + 1) (by rw [show (1 : Int32) = nI 1 from rfl, nI_add]) (by omega) (by omega) rfl ?_
  show ab_Z m_Lw_law _ _ _ 214 [_, _, _, _] [_, _, _] _
  refine ab_go ok_Lw_law 4 rfl ?_
  show ab_Z m_Lw_law _ _ _ 218 [_, _, _, _] [_, _, _, _, _] _
  refine ab_sx ok_Lw_law rfl (k := 6 * i + 2) (by rw [show (2 : Int32) = nI 2 from rfl, nI_add]) (by omega) (by omega) rfl ?_
  show ab_Z m_Lw_law _ _ _ 219 [_, _, _, _] [_, _, _, _] _
  refine ab_go ok_Lw_law 4 rfl ?_
  show ab_Z m_Lw_law _ _ _ 223 [_, _, _, _] [_, _, _, _, _, _] _
  refine ab_sx ok_Lw_law rfl (k := 6 * i + 3) (by rw [show (3 : Int32) = nI 3 from rfl, nI_add]) (by omega) (by omega) rfl ?_
  show ab_Z m_Lw_law _ _ _ 224 [_, _, _, _] [_, _, _, _, _] _
  refine ab_cl ok_Lw_law rfl [_, _, _, _] [_] rfl ⟨_, _, rfl, rfl, Or.inl ⟨_, _, rfl, rfl⟩⟩ (Nat.le_of_ble_eq_true rfl) k3 ?_
  rintro _ _ ⟨r2, s2, t2, f, rfl, rfl, rfl, rfl, hI⟩
  show ab_Z m_Lw_law _ _ _ 225 [_, _, _, _] [_, _] _
  refine ab_br ok_Lw_law rfl rfl ?_ ?_
  · intro h9
    show ab_Z m_Lw_law _ _ _ 927 [_, _, _, _] [] _
    exact nx _ _ _ hI
  · intro h9
    show ab_Z m_Lw_law _ _ _ 226 [_, _, _, _] [] _
    exact absurd rfl h9
set_option maxRecDepth 8192 in
theorem lw_seal (hi : 6 * i + 6 ≤ L) (hL : L ≤ 3072) (h : INV i s t) (nx : ∀ b s t, INV (i + 1) s t → ab_Z m_Lw_law 27 (0, 0) Po 927 [some (.ref 9001), some (.ref 0), some (.ref 81), some (.int (nI (6 * i)))] [] (hq b fm (L, xs) s t)) : ab_Z m_Lw_law 27 (0, 0) Po 228 [some (.ref 9001), some (.ref 0), some (.ref 81), some (.int (nI (6 * i)))] [] (hq b fm (L, xs) s t) := by
  obtain ⟨S, T, RO, e1⟩ := hq_t b fm (L, xs) s t
  have k1 := ab_T_ei rfl (p_seal (L, xs) (by omega) h (xs (6 * i + 1)) (xs (6 * i + 2))) b fm
  rw [e1] at k1 ⊢
  refine ab_go ok_Lw_law 5 rfl ?_
  show ab_Z m_Lw_law _ _ _ 233 [_, _, _, _] [_, _, _] _
  refine ab_sx ok_Lw_law rfl (k := 6 * i + 1) (by rw [show (1 : Int32) = nI 1 from rfl, nI_add]) (by omega) (by omega) rfl ?_
  show ab_Z m_Lw_law _ _ _ 234 [_, _, _, _] [_, _] _
  refine ab_go ok_Lw_law 4 rfl ?_
  show ab_Z m_Lw_law _ _ _ 238 [_, _, _, _] [_, _, _, _] _
  refine ab_sx ok_Lw_law rfl (k := 6 * i + 2) (by rw [show (2 : Int32) = nI 2 from rfl, nI_add]) (by omega) (by omega) rfl ?_
  show ab_Z m_Lw_law _ _ _ 239 [_, _, _, _] [_, _, _] _
  refine ab_cl ok_Lw_law rfl [_, _, _] [] rfl ⟨_, _, rfl, rfl, Or.inl ⟨_, _, rfl, rfl⟩⟩ (Nat.le_of_ble_eq_true rfl) k1 ?_
  rintro _ _ ⟨r, s1, t1, e, rfl, rfl, k2⟩
  obtain ⟨S1, T1, RO1, e2⟩ := hq_t (b ^^ e) fm (L, xs) s1 t1
  have k3 := ab_T_ei rfl k2 (b ^^ e) fm
  rw [e2] at k3 ⊢
  show ab_Z m_Lw_law _ _ _ 240 [_, _, _, _] [_] _
  refine ab_go ok_Lw_law 5 rfl ?_
  show ab_Z m_Lw_law _ _ _ 245 [_, _, _, _] [_, _, _, _] _
  refine ab_sx ok_Lw_law rfl (k := 6 * i + 1) (by rw [show (1 : Int32) = nI 1 from rfl, nI_add]) (by omega) (by omega) rfl ?_
  show ab_Z m_Lw_law _ _ _ 246 [_, _, _, _] [_, _, _] _
  refine ab_go ok_Lw_law 4 rfl ?_
  show ab_Z m_Lw_law _ _ _ 250 [_, _, _, _] [_, _, _, _, _] _
  refine ab_sx ok_Lw_law rfl (k := 6 * i + 2) (by rw [show (2 : Int32) = nI 2 from rfl, nI_add]) (by omega) (by omega) rfl ?_
  show ab_Z m_Lw_law _ _ _ 251 [_, _, _, _] [_, _, _, _] _
  refine ab_cl ok_Lw_law rfl [_, _, _] [_] rfl ⟨_, _, rfl, rfl, Or.inl ⟨_, _, rfl, rfl⟩⟩ (Nat.le_of_ble_eq_true rfl) k3 ?_
  rintro _ _ ⟨r2, s2, t2, f, rfl, rfl, rfl, rfl, hI⟩
  show ab_Z m_Lw_law _ _ _ 252 [_, _, _, _] [_, _] _
  refine ab_br ok_Lw_law rfl rfl ?_ ?_
  · intro h9
    show ab_Z m_Lw_law _ _ _ 927 [_, _, _, _] [] _
    exact nx _ _ _ hI
  · intro h9
    show ab_Z m_Lw_law _ _ _ 253 [_, _, _, _] [] _
    exact absurd rfl h9
end

