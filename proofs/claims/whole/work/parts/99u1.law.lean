/-! the law: cases 9 .. 19 (written by gen_law.py) -/
section
variable {i L : Nat} {xs : Nat → Int32} {fm : Value} {s : Nat → Nat → Int32} {t : Nat → Nat → Int64} {b : Bool} {Po : Option Value → ab_H → Prop}
set_option maxRecDepth 8192 in
theorem lw_forge (hi : 6 * i + 6 ≤ L) (hL : L ≤ 3072) (h : INV i s t) (nx : ∀ b s t, INV (i + 1) s t → ab_Z m_Lw_law 27 (0, 0) Po 927 [some (.ref 9001), some (.ref 0), some (.ref 81), some (.int (nI (6 * i)))] [] (hq b fm (L, xs) s t)) : ab_Z m_Lw_law 27 (0, 0) Po 255 [some (.ref 9001), some (.ref 0), some (.ref 81), some (.int (nI (6 * i)))] [] (hq b fm (L, xs) s t) := by
  obtain ⟨S, T, RO, e1⟩ := hq_t b fm (L, xs) s t
  have k1 := ab_T_ei rfl (p_forge (L, xs) (by omega) h (xs (6 * i + 1))) b fm
  rw [e1] at k1 ⊢
  refine ab_go ok_Lw_law 5 rfl ?_
  show ab_Z m_Lw_law _ _ _ 260 [_, _, _, _] [_, _, _] _
  refine ab_sx ok_Lw_law rfl (k := 6 * i + 1) (by rw [show (1 : Int32) = nI 1 from rfl, nI_add]) (by omega) (by omega) rfl ?_
  show ab_Z m_Lw_law _ _ _ 261 [_, _, _, _] [_, _] _
  refine ab_cl ok_Lw_law rfl [_, _] [] rfl ⟨_, _, rfl, rfl, Or.inl ⟨_, _, rfl, rfl⟩⟩ (Nat.le_of_ble_eq_true rfl) k1 ?_
  rintro _ _ ⟨r, s1, t1, e, rfl, rfl, k2⟩
  obtain ⟨S1, T1, RO1, e2⟩ := hq_t (b ^^ e) fm (L, xs) s1 t1
  have k3 := ab_T_ei rfl k2 (b ^^ e) fm
  rw [e2] at k3 ⊢
  show ab_Z m_Lw_law _ _ _ 262 [_, _, _, _] [_] _
  refine ab_go ok_Lw_law 5 rfl ?_
  show ab_Z m_Lw_law _ _ _ 267 [_, _, _, _] [_, _, _, _] _
  refine ab_sx ok_Lw_law rfl (k := 6 * i + 1) (by rw [show (1 : Int32) = nI 1 from rfl, nI_add]) (by omega) (by omega) rfl ?_
  show ab_Z m_Lw_law _ _ _ 268 [_, _, _, _] [_, _, _] _
  refine ab_cl ok_Lw_law rfl [_, _] [_] rfl ⟨_, _, rfl, rfl, Or.inl ⟨_, _, rfl, rfl⟩⟩ (Nat.le_of_ble_eq_true rfl) k3 ?_
  rintro _ _ ⟨r2, s2, t2, f, rfl, rfl, rfl, rfl, hI⟩
  show ab_Z m_Lw_law _ _ _ 269 [_, _, _, _] [_, _] _
  refine ab_br ok_Lw_law rfl rfl ?_ ?_
  · intro h9
    show ab_Z m_Lw_law _ _ _ 927 [_, _, _, _] [] _
    exact nx _ _ _ hI
  · intro h9
    show ab_Z m_Lw_law _ _ _ 270 [_, _, _, _] [] _
    exact absurd rfl h9
set_option maxRecDepth 8192 in
theorem lw_burn (hi : 6 * i + 6 ≤ L) (hL : L ≤ 3072) (h : INV i s t) (nx : ∀ b s t, INV (i + 1) s t → ab_Z m_Lw_law 27 (0, 0) Po 927 [some (.ref 9001), some (.ref 0), some (.ref 81), some (.int (nI (6 * i)))] [] (hq b fm (L, xs) s t)) : ab_Z m_Lw_law 27 (0, 0) Po 272 [some (.ref 9001), some (.ref 0), some (.ref 81), some (.int (nI (6 * i)))] [] (hq b fm (L, xs) s t) := by
  obtain ⟨S, T, RO, e1⟩ := hq_t b fm (L, xs) s t
  have k1 := ab_T_ei rfl (p_burn (L, xs) (by omega) h (xs (6 * i + 1))) b fm
  rw [e1] at k1 ⊢
  refine ab_go ok_Lw_law 5 rfl ?_
  show ab_Z m_Lw_law _ _ _ 277 [_, _, _, _] [_, _, _] _
  refine ab_sx ok_Lw_law rfl (k := 6 * i + 1) (by rw [show (1 : Int32) = nI 1 from rfl, nI_add]) (by omega) (by omega) rfl ?_
  show ab_Z m_Lw_law _ _ _ 278 [_, _, _, _] [_, _] _
  refine ab_cl ok_Lw_law rfl [_, _] [] rfl ⟨_, _, rfl, rfl, Or.inl ⟨_, _, rfl, rfl⟩⟩ (Nat.le_of_ble_eq_true rfl) k1 ?_
  rintro _ _ ⟨r, s1, t1, e, rfl, rfl, k2⟩
  obtain ⟨S1, T1, RO1, e2⟩ := hq_t (b ^^ e) fm (L, xs) s1 t1
  have k3 := ab_T_ei rfl k2 (b ^^ e) fm
  rw [e2] at k3 ⊢
  show ab_Z m_Lw_law _ _ _ 279 [_, _, _, _] [_] _
  refine ab_go ok_Lw_law 5 rfl ?_
  show ab_Z m_Lw_law _ _ _ 284 [_, _, _, _] [_, _, _, _] _
  refine ab_sx ok_Lw_law rfl (k := 6 * i + 1) (by rw [show (1 : Int32) = nI 1 from rfl, nI_add]) (by omega) (by omega) rfl ?_
  show ab_Z m_Lw_law _ _ _ 285 [_, _, _, _] [_, _, _] _
  refine ab_cl ok_Lw_law rfl [_, _] [_] rfl ⟨_, _, rfl, rfl, Or.inl ⟨_, _, rfl, rfl⟩⟩ (Nat.le_of_ble_eq_true rfl) k3 ?_
  rintro _ _ ⟨r2, s2, t2, f, rfl, rfl, rfl, rfl, hI⟩
  show ab_Z m_Lw_law _ _ _ 286 [_, _, _, _] [_, _] _
  refine ab_br ok_Lw_law rfl rfl ?_ ?_
  · intro h9
    show ab_Z m_Lw_law _ _ _ 927 [_, _, _, _] [] _
    exact nx _ _ _ hI
  · intro h9
    show ab_Z m_Lw_law _ _ _ 287 [_, _, _, _] [] _
    exact absurd rfl h9
set_option maxRecDepth 8192 in
theorem lw_years (hi : 6 * i + 6 ≤ L) (hL : L ≤ 3072) (h : INV i s t) (nx : ∀ b s t, INV (i + 1) s t → ab_Z m_Lw_law 27 (0, 0) Po 927 [some (.ref 9001), some (.ref 0), some (.ref 81), some (.int (nI (6 * i)))] [] (hq b fm (L, xs) s t)) : ab_Z m_Lw_law 27 (0, 0) Po 289 [some (.ref 9001), some (.ref 0), some (.ref 81), some (.int (nI (6 * i)))] [] (hq b fm (L, xs) s t) := by
  obtain ⟨S, T, RO, e1⟩ := hq_t b fm (L, xs) s t
  have k1 := ab_T_ei rfl (p_years (L, xs) (by omega) h (xs (6 * i + 1))) b fm
  rw [e1] at k1 ⊢
  refine ab_go ok_Lw_law 5 rfl ?_
  show ab_Z m_Lw_law _ _ _ 294 [_, _, _, _] [_, _, _] _
  refine ab_sx ok_Lw_law rfl (k := 6 * i + 1) (by rw [show (1 : Int32) = nI 1 from rfl, nI_add]) (by omega) (by omega) rfl ?_
  show ab_Z m_Lw_law _ _ _ 295 [_, _, _, _] [_, _] _
  refine ab_cl ok_Lw_law rfl [_, _] [] rfl ⟨_, _, rfl, rfl, Or.inl ⟨_, _, rfl, rfl⟩⟩ (Nat.le_of_ble_eq_true rfl) k1 ?_
  rintro _ _ ⟨r, s1, t1, e, rfl, rfl, k2⟩
  obtain ⟨S1, T1, RO1, e2⟩ := hq_t (b ^^ e) fm (L, xs) s1 t1
  have k3 := ab_T_ei rfl k2 (b ^^ e) fm
  rw [e2] at k3 ⊢
  show ab_Z m_Lw_law _ _ _ 296 [_, _, _, _] [_] _
  refine ab_go ok_Lw_law 5 rfl ?_
  show ab_Z m_Lw_law _ _ _ 301 [_, _, _, _] [_, _, _, _] _
  refine ab_sx ok_Lw_law rfl (k := 6 * i + 1) (by rw [show (1 : Int32) = nI 1 from rfl, nI_add]) (by omega) (by omega) rfl ?_
  show ab_Z m_Lw_law _ _ _ 302 [_, _, _, _] [_, _, _] _
  refine ab_cl ok_Lw_law rfl [_, _] [_] rfl ⟨_, _, rfl, rfl, Or.inl ⟨_, _, rfl, rfl⟩⟩ (Nat.le_of_ble_eq_true rfl) k3 ?_
  rintro _ _ ⟨r2, s2, t2, f, rfl, rfl, rfl, rfl, hI⟩
  show ab_Z m_Lw_law _ _ _ 303 [_, _, _, _] [_, _] _
  refine ab_br ok_Lw_law rfl rfl ?_ ?_
  · intro h9
    show ab_Z m_Lw_law _ _ _ 927 [_, _, _, _] [] _
    exact nx _ _ _ hI
  · intro h9
    show ab_Z m_Lw_law _ _ _ 304 [_, _, _, _] [] _
    exact absurd rfl h9
set_option maxRecDepth 8192 in
theorem lw_undo (hi : 6 * i + 6 ≤ L) (hL : L ≤ 3072) (h : INV i s t) (nx : ∀ b s t, INV (i + 1) s t → ab_Z m_Lw_law 27 (0, 0) Po 927 [some (.ref 9001), some (.ref 0), some (.ref 81), some (.int (nI (6 * i)))] [] (hq b fm (L, xs) s t)) : ab_Z m_Lw_law 27 (0, 0) Po 306 [some (.ref 9001), some (.ref 0), some (.ref 81), some (.int (nI (6 * i)))] [] (hq b fm (L, xs) s t) := by
  obtain ⟨S, T, RO, e1⟩ := hq_t b fm (L, xs) s t
  have k1 := ab_T_ei rfl (p_undo (L, xs) (by omega) h ) b fm
  rw [e1] at k1 ⊢
  refine ab_go ok_Lw_law 1 rfl ?_
  show ab_Z m_Lw_law _ _ _ 307 [_, _, _, _] [_] _
  refine ab_cl ok_Lw_law rfl [_] [] rfl ⟨_, _, rfl, rfl, Or.inl ⟨_, _, rfl, rfl⟩⟩ (Nat.le_of_ble_eq_true rfl) k1 ?_
  rintro _ _ ⟨r, s1, t1, e, rfl, rfl, k2⟩
  obtain ⟨S1, T1, RO1, e2⟩ := hq_t (b ^^ e) fm (L, xs) s1 t1
  have k3 := ab_T_ei rfl k2 (b ^^ e) fm
  rw [e2] at k3 ⊢
  show ab_Z m_Lw_law _ _ _ 308 [_, _, _, _] [_] _
  refine ab_go ok_Lw_law 1 rfl ?_
  show ab_Z m_Lw_law _ _ _ 309 [_, _, _, _] [_, _] _
  refine ab_cl ok_Lw_law rfl [_] [_] rfl ⟨_, _, rfl, rfl, Or.inl ⟨_, _, rfl, rfl⟩⟩ (Nat.le_of_ble_eq_true rfl) k3 ?_
  rintro _ _ ⟨r2, s2, t2, f, rfl, rfl, rfl, rfl, hI⟩
  show ab_Z m_Lw_law _ _ _ 310 [_, _, _, _] [_, _] _
  refine ab_br ok_Lw_law rfl rfl ?_ ?_
  · intro h9
    show ab_Z m_Lw_law _ _ _ 927 [_, _, _, _] [] _
    exact nx _ _ _ hI
  · intro h9
    show ab_Z m_Lw_law _ _ _ 311 [_, _, _, _] [] _
    exact absurd rfl h9
set_option maxRecDepth 8192 in
theorem lw_all (hi : 6 * i + 6 ≤ L) (hL : L ≤ 3072) (h : INV i s t) (nx : ∀ b s t, INV (i + 1) s t → ab_Z m_Lw_law 27 (0, 0) Po 927 [some (.ref 9001), some (.ref 0), some (.ref 81), some (.int (nI (6 * i)))] [] (hq b fm (L, xs) s t)) : ab_Z m_Lw_law 27 (0, 0) Po 313 [some (.ref 9001), some (.ref 0), some (.ref 81), some (.int (nI (6 * i)))] [] (hq b fm (L, xs) s t) := by
  obtain ⟨S, T, RO, e1⟩ := hq_t b fm (L, xs) s t
  have k1 := ab_T_ei rfl (p_all (L, xs) h (xs (6 * i + 1))) b fm
  rw [e1] at k1 ⊢
  refine ab_go ok_Lw_law 5 rfl ?_
  show ab_Z m_Lw_law _ _ _ 318 [_, _, _, _] [_, _, _] _
  refine ab_sx ok_Lw_law rfl (k := 6 * i + 1) (by rw [show (1 : Int32) = nI 1 from rfl, nI_add]) (by omega) (by omega) rfl ?_
  show ab_Z m_Lw_law _ _ _ 319 [_, _, _, _] [_, _] _
  refine ab_cl ok_Lw_law rfl [_, _] [] rfl ⟨_, _, rfl, rfl, Or.inl ⟨_, _, rfl, rfl⟩⟩ (Nat.le_of_ble_eq_true rfl) k1 ?_
  rintro _ _ ⟨r, s1, t1, e, rfl, rfl, k2⟩
  obtain ⟨S1, T1, RO1, e2⟩ := hq_t (b ^^ e) fm (L, xs) s1 t1
  have k3 := ab_T_ei rfl k2 (b ^^ e) fm
  rw [e2] at k3 ⊢
  show ab_Z m_Lw_law _ _ _ 320 [_, _, _, _] [_] _
  refine ab_go ok_Lw_law 5 rfl ?_
  show ab_Z m_Lw_law _ _ _ 325 [_, _, _, _] [_, _, _, _] _
  refine ab_sx ok_Lw_law rfl (k := 6 * i + 1) (by rw [show (1 : Int32) = nI 1 from rfl, nI_add]) (by omega) (by omega) rfl ?_
  show ab_Z m_Lw_law _ _ _ 326 [_, _, _, _] [_, _, _] _
  refine ab_cl ok_Lw_law rfl [_, _] [_] rfl ⟨_, _, rfl, rfl, Or.inl ⟨_, _, rfl, rfl⟩⟩ (Nat.le_of_ble_eq_true rfl) k3 ?_
  rintro _ _ ⟨r2, s2, t2, f, rfl, rfl, rfl, rfl, hI⟩
  show ab_Z m_Lw_law _ _ _ 327 [_, _, _, _] [_, _] _
  refine ab_br ok_Lw_law rfl rfl ?_ ?_
  · intro h9
    show ab_Z m_Lw_law _ _ _ 927 [_, _, _, _] [] _
    exact nx _ _ _ hI
  · intro h9
    show ab_Z m_Lw_law _ _ _ 328 [_, _, _, _] [] _
    exact absurd rfl h9
set_option maxRecDepth 8192 in
theorem lw_fewest (hi : 6 * i + 6 ≤ L) (hL : L ≤ 3072) (h : INV i s t) (nx : ∀ b s t, INV (i + 1) s t → ab_Z m_Lw_law 27 (0, 0) Po 927 [some (.ref 9001), some (.ref 0), some (.ref 81), some (.int (nI (6 * i)))] [] (hq b fm (L, xs) s t)) : ab_Z m_Lw_law 27 (0, 0) Po 330 [some (.ref 9001), some (.ref 0), some (.ref 81), some (.int (nI (6 * i)))] [] (hq b fm (L, xs) s t) := by
  obtain ⟨S, T, RO, e1⟩ := hq_t b fm (L, xs) s t
  have k1 := ab_T_ei rfl (p_fewest (L, xs) h (xs (6 * i + 1))) b fm
  rw [e1] at k1 ⊢
  refine ab_go ok_Lw_law 5 rfl ?_
  show ab_Z m_Lw_law _ _ _ 335 [_, _, _, _] [_, _, _] _
  refine ab_sx ok_Lw_law rfl (k := 6 * i + 1) (by rw [show (1 : Int32) = nI 1 from rfl, nI_add]) (by omega) (by omega) rfl ?_
  show ab_Z m_Lw_law _ _ _ 336 [_, _, _, _] [_, _] _
  refine ab_cl ok_Lw_law rfl [_, _] [] rfl ⟨_, _, rfl, rfl, Or.inl ⟨_, _, rfl, rfl⟩⟩ (Nat.le_of_ble_eq_true rfl) k1 ?_
  rintro _ _ ⟨r, s1, t1, e, rfl, rfl, k2⟩
  obtain ⟨S1, T1, RO1, e2⟩ := hq_t (b ^^ e) fm (L, xs) s1 t1
  have k3 := ab_T_ei rfl k2 (b ^^ e) fm
  rw [e2] at k3 ⊢
  show ab_Z m_Lw_law _ _ _ 337 [_, _, _, _] [_] _
  refine ab_go ok_Lw_law 5 rfl ?_
  show ab_Z m_Lw_law _ _ _ 342 [_, _, _, _] [_, _, _, _] _
  refine ab_sx ok_Lw_law rfl (k := 6 * i + 1) (by rw [show (1 : Int32) = nI 1 from rfl, nI_add]) (by omega) (by omega) rfl ?_
  show ab_Z m_Lw_law _ _ _ 343 [_, _, _, _] [_, _, _] _
  refine ab_cl ok_Lw_law rfl [_, _] [_] rfl ⟨_, _, rfl, rfl, Or.inl ⟨_, _, rfl, rfl⟩⟩ (Nat.le_of_ble_eq_true rfl) k3 ?_
  rintro _ _ ⟨r2, s2, t2, f, rfl, rfl, rfl, rfl, hI⟩
  show ab_Z m_Lw_law _ _ _ 344 [_, _, _, _] [_, _] _
  refine ab_br ok_Lw_law rfl rfl ?_ ?_
  · intro h9
    show ab_Z m_Lw_law _ _ _ 927 [_, _, _, _] [] _
    exact nx _ _ _ hI
  · intro h9
    show ab_Z m_Lw_law _ _ _ 345 [_, _, _, _] [] _
    exact absurd rfl h9
set_option maxRecDepth 8192 in
theorem lw_match (hi : 6 * i + 6 ≤ L) (hL : L ≤ 3072) (h : INV i s t) (nx : ∀ b s t, INV (i + 1) s t → ab_Z m_Lw_law 27 (0, 0) Po 927 [some (.ref 9001), some (.ref 0), some (.ref 81), some (.int (nI (6 * i)))] [] (hq b fm (L, xs) s t)) : ab_Z m_Lw_law 27 (0, 0) Po 347 [some (.ref 9001), some (.ref 0), some (.ref 81), some (.int (nI (6 * i)))] [] (hq b fm (L, xs) s t) := by
  obtain ⟨S, T, RO, e1⟩ := hq_t b fm (L, xs) s t
  have k1 := ab_T_ei rfl (p_match (L, xs) h (xs (6 * i + 1))) b fm
  rw [e1] at k1 ⊢
  refine ab_go ok_Lw_law 5 rfl ?_
  show ab_Z m_Lw_law _ _ _ 352 [_, _, _, _] [_, _, _] _
  refine ab_sx ok_Lw_law rfl (k := 6 * i + 1) (by rw [show (1 : Int32) = nI 1 from rfl, nI_add]) (by omega) (by omega) rfl ?_
  show ab_Z m_Lw_law _ _ _ 353 [_, _, _, _] [_, _] _
  refine ab_cl ok_Lw_law rfl [_, _] [] rfl ⟨_, _, rfl, rfl, Or.inl ⟨_, _, rfl, rfl⟩⟩ (Nat.le_of_ble_eq_true rfl) k1 ?_
  rintro _ _ ⟨r, s1, t1, e, rfl, rfl, k2⟩
  obtain ⟨S1, T1, RO1, e2⟩ := hq_t (b ^^ e) fm (L, xs) s1 t1
  have k3 := ab_T_ei rfl k2 (b ^^ e) fm
  rw [e2] at k3 ⊢
  show ab_Z m_Lw_law _ _ _ 354 [_, _, _, _] [_] _
  refine ab_go ok_Lw_law 5 rfl ?_
  show ab_Z m_Lw_law _ _ _ 359 [_, _, _, _] [_, _, _, _] _
  refine ab_sx ok_Lw_law rfl (k := 6 * i + 1) (by rw [show (1 : Int32) = nI 1 from rfl, nI_add]) (by omega) (by omega) rfl ?_
  show ab_Z m_Lw_law _ _ _ 360 [_, _, _, _] [_, _, _] _
  refine ab_cl ok_Lw_law rfl [_, _] [_] rfl ⟨_, _, rfl, rfl, Or.inl ⟨_, _, rfl, rfl⟩⟩ (Nat.le_of_ble_eq_true rfl) k3 ?_
  rintro _ _ ⟨r2, s2, t2, f, rfl, rfl, rfl, rfl, hI⟩
  show ab_Z m_Lw_law _ _ _ 361 [_, _, _, _] [_, _] _
  refine ab_br ok_Lw_law rfl rfl ?_ ?_
  · intro h9
    show ab_Z m_Lw_law _ _ _ 927 [_, _, _, _] [] _
    exact nx _ _ _ hI
  · intro h9
    show ab_Z m_Lw_law _ _ _ 362 [_, _, _, _] [] _
    exact absurd rfl h9
set_option maxRecDepth 8192 in
theorem lw_greatest (hi : 6 * i + 6 ≤ L) (hL : L ≤ 3072) (h : INV i s t) (nx : ∀ b s t, INV (i + 1) s t → ab_Z m_Lw_law 27 (0, 0) Po 927 [some (.ref 9001), some (.ref 0), some (.ref 81), some (.int (nI (6 * i)))] [] (hq b fm (L, xs) s t)) : ab_Z m_Lw_law 27 (0, 0) Po 364 [some (.ref 9001), some (.ref 0), some (.ref 81), some (.int (nI (6 * i)))] [] (hq b fm (L, xs) s t) := by
  obtain ⟨S, T, RO, e1⟩ := hq_t b fm (L, xs) s t
  have k1 := ab_T_ei rfl (p_greatest (L, xs) h (xs (6 * i + 1))) b fm
  rw [e1] at k1 ⊢
  refine ab_go ok_Lw_law 5 rfl ?_
  show ab_Z m_Lw_law _ _ _ 369 [_, _, _, _] [_, _, _] _
  refine ab_sx ok_Lw_law rfl (k := 6 * i + 1) (by rw [show (1 : Int32) = nI 1 from rfl, nI_add]) (by omega) (by omega) rfl ?_
  show ab_Z m_Lw_law _ _ _ 370 [_, _, _, _] [_, _] _
  refine ab_cl ok_Lw_law rfl [_, _] [] rfl ⟨_, _, rfl, rfl, Or.inl ⟨_, _, rfl, rfl⟩⟩ (Nat.le_of_ble_eq_true rfl) k1 ?_
  rintro _ _ ⟨r, s1, t1, e, rfl, rfl, k2⟩
  obtain ⟨S1, T1, RO1, e2⟩ := hq_t (b ^^ e) fm (L, xs) s1 t1
  have k3 := ab_T_ei rfl k2 (b ^^ e) fm
  rw [e2] at k3 ⊢
  show ab_Z m_Lw_law _ _ _ 371 [_, _, _, _] [_] _
  refine ab_go ok_Lw_law 5 rfl ?_
  show ab_Z m_Lw_law _ _ _ 376 [_, _, _, _] [_, _, _, _] _
  refine ab_sx ok_Lw_law rfl (k := 6 * i + 1) (by rw [show (1 : Int32) = nI 1 from rfl, nI_add]) (by omega) (by omega) rfl ?_
  show ab_Z m_Lw_law _ _ _ 377 [_, _, _, _] [_, _, _] _
  refine ab_cl ok_Lw_law rfl [_, _] [_] rfl ⟨_, _, rfl, rfl, Or.inl ⟨_, _, rfl, rfl⟩⟩ (Nat.le_of_ble_eq_true rfl) k3 ?_
  rintro _ _ ⟨r2, s2, t2, f, rfl, rfl, rfl, rfl, hI⟩
  show ab_Z m_Lw_law _ _ _ 378 [_, _, _, _] [_, _] _
  refine ab_br ok_Lw_law rfl rfl ?_ ?_
  · intro h9
    show ab_Z m_Lw_law _ _ _ 927 [_, _, _, _] [] _
    exact nx _ _ _ hI
  · intro h9
    show ab_Z m_Lw_law _ _ _ 379 [_, _, _, _] [] _
    exact absurd rfl h9
set_option maxRecDepth 8192 in
theorem lw_weakest (hi : 6 * i + 6 ≤ L) (hL : L ≤ 3072) (h : INV i s t) (nx : ∀ b s t, INV (i + 1) s t → ab_Z m_Lw_law 27 (0, 0) Po 927 [some (.ref 9001), some (.ref 0), some (.ref 81), some (.int (nI (6 * i)))] [] (hq b fm (L, xs) s t)) : ab_Z m_Lw_law 27 (0, 0) Po 381 [some (.ref 9001), some (.ref 0), some (.ref 81), some (.int (nI (6 * i)))] [] (hq b fm (L, xs) s t) := by
  obtain ⟨S, T, RO, e1⟩ := hq_t b fm (L, xs) s t
  have k1 := ab_T_ei rfl (p_weakest (L, xs) h (xs (6 * i + 1))) b fm
  rw [e1] at k1 ⊢
  refine ab_go ok_Lw_law 5 rfl ?_
  show ab_Z m_Lw_law _ _ _ 386 [_, _, _, _] [_, _, _] _
  refine ab_sx ok_Lw_law rfl (k := 6 * i + 1) (by rw [show (1 : Int32) = nI 1 from rfl, nI_add]) (by omega) (by omega) rfl ?_
  show ab_Z m_Lw_law _ _ _ 387 [_, _, _, _] [_, _] _
  refine ab_cl ok_Lw_law rfl [_, _] [] rfl ⟨_, _, rfl, rfl, Or.inl ⟨_, _, rfl, rfl⟩⟩ (Nat.le_of_ble_eq_true rfl) k1 ?_
  rintro _ _ ⟨r, s1, t1, e, rfl, rfl, k2⟩
  obtain ⟨S1, T1, RO1, e2⟩ := hq_t (b ^^ e) fm (L, xs) s1 t1
  have k3 := ab_T_ei rfl k2 (b ^^ e) fm
  rw [e2] at k3 ⊢
  show ab_Z m_Lw_law _ _ _ 388 [_, _, _, _] [_] _
  refine ab_go ok_Lw_law 5 rfl ?_
  show ab_Z m_Lw_law _ _ _ 393 [_, _, _, _] [_, _, _, _] _
  refine ab_sx ok_Lw_law rfl (k := 6 * i + 1) (by rw [show (1 : Int32) = nI 1 from rfl, nI_add]) (by omega) (by omega) rfl ?_
  show ab_Z m_Lw_law _ _ _ 394 [_, _, _, _] [_, _, _] _
  refine ab_cl ok_Lw_law rfl [_, _] [_] rfl ⟨_, _, rfl, rfl, Or.inl ⟨_, _, rfl, rfl⟩⟩ (Nat.le_of_ble_eq_true rfl) k3 ?_
  rintro _ _ ⟨r2, s2, t2, f, rfl, rfl, rfl, rfl, hI⟩
  show ab_Z m_Lw_law _ _ _ 395 [_, _, _, _] [_, _] _
  refine ab_br ok_Lw_law rfl rfl ?_ ?_
  · intro h9
    show ab_Z m_Lw_law _ _ _ 927 [_, _, _, _] [] _
    exact nx _ _ _ hI
  · intro h9
    show ab_Z m_Lw_law _ _ _ 396 [_, _, _, _] [] _
    exact absurd rfl h9
set_option maxRecDepth 8192 in
theorem lw_hands (hi : 6 * i + 6 ≤ L) (hL : L ≤ 3072) (h : INV i s t) (nx : ∀ b s t, INV (i + 1) s t → ab_Z m_Lw_law 27 (0, 0) Po 927 [some (.ref 9001), some (.ref 0), some (.ref 81), some (.int (nI (6 * i)))] [] (hq b fm (L, xs) s t)) : ab_Z m_Lw_law 27 (0, 0) Po 398 [some (.ref 9001), some (.ref 0), some (.ref 81), some (.int (nI (6 * i)))] [] (hq b fm (L, xs) s t) := by
  obtain ⟨S, T, RO, e1⟩ := hq_t b fm (L, xs) s t
  have k1 := ab_T_ei rfl (p_hands (L, xs) h (xs (6 * i + 1))) b fm
  rw [e1] at k1 ⊢
  refine ab_go ok_Lw_law 5 rfl ?_
  show ab_Z m_Lw_law _ _ _ 403 [_, _, _, _] [_, _, _] _
  refine ab_sx ok_Lw_law rfl (k := 6 * i + 1) (by rw [show (1 : Int32) = nI 1 from rfl, nI_add]) (by omega) (by omega) rfl ?_
  show ab_Z m_Lw_law _ _ _ 404 [_, _, _, _] [_, _] _
  refine ab_cl ok_Lw_law rfl [_, _] [] rfl ⟨_, _, rfl, rfl, Or.inl ⟨_, _, rfl, rfl⟩⟩ (Nat.le_of_ble_eq_true rfl) k1 ?_
  rintro _ _ ⟨r, s1, t1, e, rfl, rfl, k2⟩
  obtain ⟨S1, T1, RO1, e2⟩ := hq_t (b ^^ e) fm (L, xs) s1 t1
  have k3 := ab_T_ei rfl k2 (b ^^ e) fm
  rw [e2] at k3 ⊢
  show ab_Z m_Lw_law _ _ _ 405 [_, _, _, _] [_] _
  refine ab_go ok_Lw_law 5 rfl ?_
  show ab_Z m_Lw_law _ _ _ 410 [_, _, _, _] [_, _, _, _] _
  refine ab_sx ok_Lw_law rfl (k := 6 * i + 1) (by rw [show (1 : Int32) = nI 1 from rfl, nI_add]) (by omega) (by omega) rfl ?_
  show ab_Z m_Lw_law _ _ _ 411 [_, _, _, _] [_, _, _] _
  refine ab_cl ok_Lw_law rfl [_, _] [_] rfl ⟨_, _, rfl, rfl, Or.inl ⟨_, _, rfl, rfl⟩⟩ (Nat.le_of_ble_eq_true rfl) k3 ?_
  rintro _ _ ⟨r2, s2, t2, f, rfl, rfl, rfl, rfl, hI⟩
  show ab_Z m_Lw_law _ _ _ 412 [_, _, _, _] [_, _] _
  refine ab_br ok_Lw_law rfl rfl ?_ ?_
  · intro h9
    show ab_Z m_Lw_law _ _ _ 927 [_, _, _, _] [] _
    exact nx _ _ _ hI
  · intro h9
    show ab_Z m_Lw_law _ _ _ 413 [_, _, _, _] [] _
    exact absurd rfl h9
set_option maxRecDepth 8192 in
theorem lw_work (hi : 6 * i + 6 ≤ L) (hL : L ≤ 3072) (h : INV i s t) (nx : ∀ b s t, INV (i + 1) s t → ab_Z m_Lw_law 27 (0, 0) Po 927 [some (.ref 9001), some (.ref 0), some (.ref 81), some (.int (nI (6 * i)))] [] (hq b fm (L, xs) s t)) : ab_Z m_Lw_law 27 (0, 0) Po 415 [some (.ref 9001), some (.ref 0), some (.ref 81), some (.int (nI (6 * i)))] [] (hq b fm (L, xs) s t) := by
  obtain ⟨S, T, RO, e1⟩ := hq_t b fm (L, xs) s t
  have k1 := ab_T_ei rfl (p_work (L, xs) h (xs (6 * i + 1))) b fm
  rw [e1] at k1 ⊢
  refine ab_go ok_Lw_law 5 rfl ?_
  show ab_Z m_Lw_law _ _ _ 420 [_, _, _, _] [_, _, _] _
  refine ab_sx ok_Lw_law rfl (k := 6 * i + 1) (by rw [show (1 : Int32) = nI 1 from rfl, nI_add]) (by omega) (by omega) rfl ?_
  show ab_Z m_Lw_law _ _ _ 421 [_, _, _, _] [_, _] _
  refine ab_cl ok_Lw_law rfl [_, _] [] rfl ⟨_, _, rfl, rfl, Or.inl ⟨_, _, rfl, rfl⟩⟩ (Nat.le_of_ble_eq_true rfl) k1 ?_
  rintro _ _ ⟨r, s1, t1, e, rfl, rfl, k2⟩
  obtain ⟨S1, T1, RO1, e2⟩ := hq_t (b ^^ e) fm (L, xs) s1 t1
  have k3 := ab_T_ei rfl k2 (b ^^ e) fm
  rw [e2] at k3 ⊢
  show ab_Z m_Lw_law _ _ _ 422 [_, _, _, _] [_] _
  refine ab_go ok_Lw_law 5 rfl ?_
  show ab_Z m_Lw_law _ _ _ 427 [_, _, _, _] [_, _, _, _] _
  refine ab_sx ok_Lw_law rfl (k := 6 * i + 1) (by rw [show (1 : Int32) = nI 1 from rfl, nI_add]) (by omega) (by omega) rfl ?_
  show ab_Z m_Lw_law _ _ _ 428 [_, _, _, _] [_, _, _] _
  refine ab_cl ok_Lw_law rfl [_, _] [_] rfl ⟨_, _, rfl, rfl, Or.inl ⟨_, _, rfl, rfl⟩⟩ (Nat.le_of_ble_eq_true rfl) k3 ?_
  rintro _ _ ⟨r2, s2, t2, f, rfl, rfl, rfl, rfl, hI⟩
  show ab_Z m_Lw_law _ _ _ 429 [_, _, _, _] [_, _] _
  refine ab_br ok_Lw_law rfl rfl ?_ ?_
  · intro h9
    show ab_Z m_Lw_law _ _ _ 927 [_, _, _, _] [] _
    exact nx _ _ _ hI
  · intro h9
    show ab_Z m_Lw_law _ _ _ 430 [_, _, _, _] [] _
    exact absurd rfl h9
end

