section
variable (d : Nat) (fm : Value) (X : Nat × (Nat → Int32)) (s T : Nat → Nat → Int32) (t : Nat → Nat → Int64)
variable {lv nc nd nt : Nat} {PT PG PB PF : List (List Ins)}
abbrev PD (P : Prop) [Decidable P] (fm : Value) (X : Nat × (Nat → Int32)) (s T : Nat → Nat → Int32) (t : Nat → Nat → Int64) (nc nd u : Nat) (r : Nat → Int32) : Option Value → ab_H → Prop := fun v h => v = some (.int (bI P)) ∧ ∃ s', h = HA fm X s' t ∧ (P → RecV s s' T nc nd u r) ∧ (¬ P → Kr w4 s s')
theorem t_Mo_seal (hC : RC s lv T nc nd nt PT PG PB PF) {u : Nat} (hu : s 81 56 = nI u) (hu4 : u ≤ 40) (x y : Int32) : ab_T g_Mo_seal (d + 4) (0, 0) [.ref 81, .int x, .int y] (HA fm X s t) (PD (inR nc x ∧ inR nd y ∧ canB (vR T nc nd (s 114)) PT nd x.toNatClampNeg y.toNatClampNeg = true) fm X s T t nc nd u (sealR (vR T nc nd (s 114)) PT nd x.toNatClampNeg y.toNatClampNeg)) := by
  have h5 := hC.1.2.2.1.2
  have h6 := hC.1.2.2.2.1.2
  generalize hPo : PD (inR nc x ∧ inR nd y ∧ canB (vR T nc nd (s 114)) PT nd x.toNatClampNeg y.toNatClampNeg = true) fm X s T t nc nd u (sealR (vR T nc nd (s 114)) PT nd x.toNatClampNeg y.toNatClampNeg) = Po
  have fno : ∀ s', Kr w4 s s' → ¬ (inR nc x ∧ inR nd y ∧ canB (vR T nc nd (s 114)) PT nd x.toNatClampNeg y.toNatClampNeg = true) → Po (some (.int 0)) (HA fm X s' t) := by
    intro s' hk hn
    rw [← hPo]
    exact ⟨by rw [bI_f hn], s', rfl, fun z => absurd z hn, fun _ => hk⟩
  have no : ¬ (inR nc x ∧ inR nd y) → ab_Z m_Mo_seal (d + 4) (0, 0) Po 8 [some (.ref 81), some (.int x), some (.int y)] [] (HA fm X s t) := by
    intro hn
    refine ab_go ok_Mo_seal 1 rfl ?_
    show ab_Z m_Mo_seal _ _ _ 9 [_, _, _] [_] _
    exact ab_rZ ok_Mo_seal rfl (by first | decide | exact bB_01 _ | exact bI_01 _) (fno s (Kr.rf w4 s) (fun z => hn ⟨z.1, z.2.1⟩))
  refine ab_T_of (M := m_Mo_seal) rfl rfl (Nat.le_of_ble_eq_true rfl) ?_
  show ab_Z m_Mo_seal _ _ _ 0 [_, _, _] [] _
  refine ab_go ok_Mo_seal 2 rfl ?_
  show ab_Z m_Mo_seal _ _ _ 2 [_, _, _] [_, _] _
  refine ab_cl ok_Mo_seal rfl [_, _] [] rfl ⟨_, _, rfl, rfl, Or.inl ⟨_, _, rfl, rfl⟩⟩ (Nat.le_of_ble_eq_true rfl) (t_Mo_isClerk (d + 2) fm X s T t hC.1 x) ?_
  rintro _ _ ⟨rfl, rfl⟩
  show ab_Z m_Mo_seal _ _ _ 3 [_, _, _] [_] _
  refine ab_br ok_Mo_seal rfl rfl ?_ ?_
  · intro h1
    show ab_Z m_Mo_seal _ _ _ 8 [_, _, _] [] _
    exact no (fun z => bI_0.mp h1 z.1)
  · intro h1
    show ab_Z m_Mo_seal _ _ _ 4 [_, _, _] [] _
    refine ab_go ok_Mo_seal 2 rfl ?_
    show ab_Z m_Mo_seal _ _ _ 6 [_, _, _] [_, _] _
    refine ab_cl ok_Mo_seal rfl [_, _] [] rfl ⟨_, _, rfl, rfl, Or.inl ⟨_, _, rfl, rfl⟩⟩ (Nat.le_of_ble_eq_true rfl) (t_Mo_isDeed (d + 2) fm X s T t hC.1 y) ?_
    rintro _ _ ⟨rfl, rfl⟩
    show ab_Z m_Mo_seal _ _ _ 7 [_, _, _] [_] _
    refine ab_br ok_Mo_seal rfl rfl ?_ ?_
    · intro h2
      show ab_Z m_Mo_seal _ _ _ 8 [_, _, _] [] _
      exact no (fun z => bI_0.mp h2 z.2)
    · intro h2
      show ab_Z m_Mo_seal _ _ _ 10 [_, _, _] [] _
      have hx := bI_n0 h1
      have hy := bI_n0 h2
      obtain ⟨c, hc, rfl⟩ := inR_nat hx
      obtain ⟨e, he, rfl⟩ := inR_nat hy
      rw [nI_c (by omega), nI_c (by omega)] at hPo fno
      refine ab_go ok_Mo_seal 1 rfl ?_
      show ab_Z m_Mo_seal _ _ _ 11 [_, _, _] [_] _
      refine ab_cl ok_Mo_seal rfl [_] [] rfl ⟨_, _, rfl, rfl, Or.inl ⟨_, _, rfl, rfl⟩⟩ (Nat.le_of_ble_eq_true rfl) (t_Mo_copies' (d + 3) fm X s T t hC) ?_
      rintro _ _ ⟨rfl, s1, rfl, k1, hC1, hv1, hl1, h40⟩
      show ab_Z m_Mo_seal _ _ _ 12 [_, _, _] [] _
      refine ab_go ok_Mo_seal 3 rfl ?_
      show ab_Z m_Mo_seal _ _ _ 15 [_, _, _] [_, _, _] _
      refine ab_cl ok_Mo_seal rfl [_, _, _] [] rfl ⟨_, _, rfl, rfl, Or.inl ⟨_, _, rfl, rfl⟩⟩ (Nat.le_of_ble_eq_true rfl) (t_Mo_canSeal d fm X s1 T t hC1 hc he) ?_
      rintro _ _ ⟨rfl, s2, rfl, k2, h116⟩
      show ab_Z m_Mo_seal _ _ _ 16 [_, _, _] [_] _
      rw [hv1] at h116 ⊢
      refine ab_br ok_Mo_seal rfl rfl ?_ ?_
      · intro h3
        show ab_Z m_Mo_seal _ _ _ 17 [_, _, _] [] _
        refine ab_go ok_Mo_seal 1 rfl ?_
        show ab_Z m_Mo_seal _ _ _ 18 [_, _, _] [_] _
        exact ab_rZ ok_Mo_seal rfl (by first | decide | exact bB_01 _ | exact bI_01 _) (fno s2 (k1.m34.tr k2.m24) (fun z => by rw [bB_0.mp h3] at z; exact absurd z.2.2 (by decide)))
      · intro h3
        show ab_Z m_Mo_seal _ _ _ 19 [_, _, _] [] _
        have hcan := bB_n0 h3
        have h116' := h116 hcan
        have hv2 : vR T nc nd (s2 115) = vR T nc nd (s 114) := by rw [k2.row (c := 115) (fun _ => rfl), hv1]
        have k12 := k1.m34.tr k2.m24
        refine ab_go ok_Mo_seal 3 rfl ?_
        show ab_Z m_Mo_seal _ _ _ 22 [_, _, _] [_, _, _] _
        refine ab_cl ok_Mo_seal rfl [_, _, _] [] rfl ⟨_, _, rfl, rfl, Or.inl ⟨_, _, rfl, rfl⟩⟩ (Nat.le_of_ble_eq_true rfl) (t_Mo_seals (d + 3) fm X s2 t (show c < 5 by omega) (show e < 6 by omega)) ?_
        rintro _ _ ⟨rfl, rfl⟩
        show ab_Z m_Mo_seal _ _ _ 23 [_, _, _] [] _
        refine ab_go ok_Mo_seal 1 rfl ?_
        show ab_Z m_Mo_seal _ _ _ 24 [_, _, _] [_] _
        refine ab_cl ok_Mo_seal rfl [_] [] rfl ⟨_, _, rfl, rfl, Or.inl ⟨_, _, rfl, rfl⟩⟩ (Nat.le_of_ble_eq_true rfl) (t_Mo_records (d + 2) fm X _ t (u := u) (by rw [ab_ro_o (by decide), k12 81 56 rfl]; exact hu) hu4) ?_
        rintro _ _ ⟨rfl, s3, rfl, hR⟩
        show ab_Z m_Mo_seal _ _ _ 25 [_, _, _] [] _
        refine ab_go ok_Mo_seal 1 rfl ?_
        show ab_Z m_Mo_seal _ _ _ 26 [_, _, _] [_] _
        have fin : Po (some (.int 1)) (HA fm X s3 t) := by
          rw [← hPo]
          refine ⟨by rw [bI_t ⟨hx, hy, hcan⟩], s3, rfl, fun _ => ?_, fun z => absurd ⟨hx, hy, hcan⟩ z⟩
          refine RecV.of h5 h6 (Kr.ro (c := 115) (fun _ => rfl) k12) hR ?_ (fun j hj => ?_)
          · rw [ab_ro_c, seal_v h5 h6 hc he (fun f hf => by rw [hv2]; exact h116' f hf), hv2]
          · rw [ab_ro_c]
            unfold Ir at hj
            unfold slR upd
            rw [if_neg (by omega), fillR_o (by omega), fillR_o (by omega), k2 115 j rfl]
            exact h40 j (by omega)
        exact ab_rZ ok_Mo_seal rfl (by first | decide | exact bB_01 _ | exact bI_01 _) (fin)
theorem forg_v {T : Nat → Nat → Int32} {nc nd e : Nat} {r : Nat → Int32} {how : Int32} {g : Nat → Int32} (h5 : nc ≤ 5) (h6 : nd ≤ 6) (he : e < nd) : vR T nc nd (fillR (upd r (15 + e) how) (21 + 3 * e) 3 g) = ab_ro (vR T nc nd r) 11 (upd (fillR (vR T nc nd r 11) (15 + 3 * e) 3 g) (33 + e) how) := by
  apply vR_of
  rw [rwF_fp h5 h6 (by omega), rwF_us h5 h6 he, ← vR_11, fillR_u (by omega)]
theorem t_Mo_becomes (hC : RC s lv T nc nd nt PT PG PB PF) {u : Nat} (hu : s 81 56 = nI u) (hu4 : u ≤ 40) {e : Nat} (he : e < nd) (how : Int32) : ab_T g_Mo_becomes (d + 2) (0, 0) [.ref 81, .int (nI e), .int how] (HA fm X s t) (fun v h => v = none ∧ ∃ s', h = HA fm X s' t ∧ RecV s s' T nc nd u (upd (fillR (vR T nc nd (s 114) 11) (15 + 3 * e) 3 (fun f => if how = -3 then T 20 (3 * e + f) else 0)) (33 + e) how)) := by
  have h5 := hC.1.2.2.1.2
  have h6 := hC.1.2.2.2.1.2
  generalize hPo : (fun v h => v = none ∧ ∃ s', h = HA fm X s' t ∧ RecV s s' T nc nd u (upd (fillR (vR T nc nd (s 114) 11) (15 + 3 * e) 3 (fun f => if how = -3 then T 20 (3 * e + f) else 0)) (33 + e) how) : Option Value → ab_H → Prop) = Po
  generalize hg : (fun f => if how = -3 then T 20 (3 * e + f) else 0) = g at hPo
  refine ab_T_of (M := m_Mo_becomes) rfl rfl (Nat.le_of_ble_eq_true rfl) ?_
  show ab_Z m_Mo_becomes _ _ _ 0 [_, _, _, _] [] _
  refine ab_go ok_Mo_becomes 1 rfl ?_
  show ab_Z m_Mo_becomes _ _ _ 1 [_, _, _, _] [_] _
  refine ab_cl ok_Mo_becomes rfl [_] [] rfl ⟨_, _, rfl, rfl, Or.inl ⟨_, _, rfl, rfl⟩⟩ (Nat.le_of_ble_eq_true rfl) (t_Mo_copies' (d + 1) fm X s T t hC) ?_
  rintro _ _ ⟨rfl, s1, rfl, k1, hC1, hv1, hl1, h40⟩
  show ab_Z m_Mo_becomes _ _ _ 2 [_, _, _, _] [] _
  refine ab_go ok_Mo_becomes 6 rfl ?_
  show ab_Z m_Mo_becomes _ _ _ 8 [_, _, _, _] [_, _, _] _
  refine ab_is ok_Mo_becomes rfl rfl (k := (15 + e)) (by first | rfl | (simp only [LL1, LL2, LL3, LL4, LL5, LL6, LL7, LL8, LL10, LL15, LL18, LL20, LL21, LL22, LL23, LL24, LL32, LL39, LL40, LL130, LL420, pk_mul, nI_add]; done) | (simp only [LL1, LL2, LL3, LL4, LL5, LL6, LL7, LL8, LL10, LL15, LL18, LL20, LL21, LL22, LL23, LL24, LL32, LL39, LL40, LL130, LL420, pk_mul, nI_add]; congr 1; omega)) (by omega) (Nat.le_of_ble_eq_true rfl) ?_
  show ab_Z m_Mo_becomes _ _ _ 9 [_, _, _, _] [] _
  refine ab_go ok_Mo_becomes 2 rfl ?_
  show ab_Z m_Mo_becomes _ _ _ 11 [_, _, _, _] [] _
  have := lp_dn 3 (fun k => ab_Z m_Mo_becomes (d + 2) (0, 0) Po 11 [some (.ref 81), some (.int (nI e)), some (.int how), some (.int (nI k))] [] (HA fm X (ab_ro s1 115 (fillR (upd (s1 115) (15 + e) how) (21 + 3 * e) k g)) t)) ?_ ?_
  · rw [fillR_0] at this
    rw [show ab_up s1 115 (15 + e) how = ab_ro s1 115 (upd (s1 115) (15 + e) how) from by rw [← ro_up, ro_id]]
    exact this
  · refine ab_go ok_Mo_becomes 2 rfl ?_
    show ab_Z m_Mo_becomes _ _ _ 13 [_, _, _, _] [_, _] _
    refine ab_go ok_Mo_becomes 1 rfl ?_
    show ab_Z m_Mo_becomes _ _ _ 35 [_, _, _, _] [] _
    refine ab_go ok_Mo_becomes 1 rfl ?_
    show ab_Z m_Mo_becomes _ _ _ 36 [_, _, _, _] [_] _
    refine ab_cl ok_Mo_becomes rfl [_] [] rfl ⟨_, _, rfl, rfl, Or.inl ⟨_, _, rfl, rfl⟩⟩ (Nat.le_of_ble_eq_true rfl) (t_Mo_records d fm X _ t (u := u) (by rw [ab_ro_o (by decide), k1 81 56 rfl]; exact hu) hu4) ?_
    rintro _ _ ⟨rfl, s3, rfl, hR⟩
    show ab_Z m_Mo_becomes _ _ _ 37 [_, _, _, _] [] _
    have fin : Po none (HA fm X s3 t) := by
      rw [← hPo]
      refine ⟨rfl, s3, rfl, RecV.of h5 h6 (Kr.ro (c := 115) (fun _ => rfl) k1.m34) hR ?_ (fun j hj => ?_)⟩
      · rw [ab_ro_c, forg_v h5 h6 he, hv1]
      · rw [ab_ro_c]
        unfold Ir at hj
        rw [fillR_o (by omega)]
        unfold upd
        rw [if_neg (by omega)]
        exact h40 j (by omega)
    exact ab_rV ok_Mo_becomes rfl (fin)
  · intro k hk ih
    have hkk : Kr w4 s1 (ab_ro s1 115 (fillR (upd (s1 115) (15 + e) how) (21 + 3 * e) k g)) := Kr.ro (fun _ => rfl) (Kr.rf w4 s1)
    rw [nI_succ] at ih
    have hput : ∀ z : Int32, z = g k → ab_Z m_Mo_becomes (d + 2) (0, 0) Po 32 [some (.ref 81), some (.int (nI e)), some (.int how), some (.int (nI k))] [.int z, .int (nI (21 + 3 * e + k)), .ref 115] (HA fm X (ab_ro s1 115 (fillR (upd (s1 115) (15 + e) how) (21 + 3 * e) k g)) t) := by
      intro z hz
      rw [hz]
      refine ab_is ok_Mo_becomes rfl rfl (k := (21 + 3 * e + k)) (by first | rfl | (simp only [LL1, LL2, LL3, LL4, LL5, LL6, LL7, LL8, LL10, LL15, LL18, LL20, LL21, LL22, LL23, LL24, LL32, LL39, LL40, LL130, LL420, pk_mul, nI_add]; done) | (simp only [LL1, LL2, LL3, LL4, LL5, LL6, LL7, LL8, LL10, LL15, LL18, LL20, LL21, LL22, LL23, LL24, LL32, LL39, LL40, LL130, LL420, pk_mul, nI_add]; congr 1; omega)) (by omega) (Nat.le_of_ble_eq_true rfl) ?_
      show ab_Z m_Mo_becomes _ _ _ 33 [_, _, _, _] [] _
      rw [ro_up, fillR_s]
      refine ab_go ok_Mo_becomes 2 rfl ?_
      show ab_Z m_Mo_becomes _ _ _ 11 [_, _, _, _] [] _
      exact ih
    refine ab_go ok_Mo_becomes 2 rfl ?_
    show ab_Z m_Mo_becomes _ _ _ 13 [_, _, _, _] [_, _] _
    refine ab_br ok_Mo_becomes rfl rfl ?_ ?_
    · intro h1
      show ab_Z m_Mo_becomes _ _ _ 35 [_, _, _, _] [] _
      exact absurd h1 (lp_in (N := 3) (by decide) hk)
    · intro h1
      show ab_Z m_Mo_becomes _ _ _ 14 [_, _, _, _] [] _
      refine ab_go ok_Mo_becomes 11 rfl ?_
      show ab_Z m_Mo_becomes _ _ _ 25 [_, _, _, _] [_, _, _, _] _
      rw [show (21 : Int32) + 3 * nI e + nI k = nI (21 + 3 * e + k) from by rw [LL21, LL3, pk_mul, nI_add, nI_add]]
      refine ab_br ok_Mo_becomes rfl rfl ?_ ?_
      · intro h2
        show ab_Z m_Mo_becomes _ _ _ 26 [_, _, _, _] [_, _] _
        refine ab_go ok_Mo_becomes 3 rfl ?_
        show ab_Z m_Mo_becomes _ _ _ 29 [_, _, _, _] [_, _, _, _, _] _
        refine ab_cl ok_Mo_becomes rfl [_, _, _] [_, _] rfl ⟨_, _, rfl, rfl, Or.inl ⟨_, _, rfl, rfl⟩⟩ (Nat.le_of_ble_eq_true rfl) (t_Mo_needAt (d + 1) fm X _ T t (hC1.1.k hkk) he hk) ?_
        rintro _ _ ⟨rfl, rfl⟩
        show ab_Z m_Mo_becomes _ _ _ 30 [_, _, _, _] [_, _, _] _
        refine ab_go ok_Mo_becomes 1 rfl ?_
        show ab_Z m_Mo_becomes _ _ _ 32 [_, _, _, _] [_, _, _] _
        exact hput _ (by rw [← hg]; exact (if_pos h2).symm)
      · intro h2
        show ab_Z m_Mo_becomes _ _ _ 31 [_, _, _, _] [_, _] _
        refine ab_go ok_Mo_becomes 1 rfl ?_
        show ab_Z m_Mo_becomes _ _ _ 32 [_, _, _, _] [_, _, _] _
        exact hput _ (by rw [← hg]; exact (if_neg h2).symm)
theorem t_Mo_forge (hC : RC s lv T nc nd nt PT PG PB PF) {u : Nat} (hu : s 81 56 = nI u) (hu4 : u ≤ 40) (y : Int32) : ab_T g_Mo_forge (d + 3) (0, 0) [.ref 81, .int y] (HA fm X s t) (PD (inR nd y ∧ openB (vR T nc nd (s 114)) y.toNatClampNeg = true) fm X s T t nc nd u (forgR (vR T nc nd (s 114)) y.toNatClampNeg)) := by
  have h6 := hC.1.2.2.2.1.2
  refine ab_T_of (M := m_Mo_forge) rfl rfl (Nat.le_of_ble_eq_true rfl) ?_
  show ab_Z m_Mo_forge _ _ _ 0 [_, _] [] _
  refine ab_go ok_Mo_forge 2 rfl ?_
  show ab_Z m_Mo_forge _ _ _ 2 [_, _] [_, _] _
  refine ab_cl ok_Mo_forge rfl [_, _] [] rfl ⟨_, _, rfl, rfl, Or.inl ⟨_, _, rfl, rfl⟩⟩ (Nat.le_of_ble_eq_true rfl) (t_Mo_isOpen d fm X s T t hC.1 y) ?_
  rintro _ _ ⟨rfl, rfl⟩
  show ab_Z m_Mo_forge _ _ _ 3 [_, _] [_] _
  refine ab_br ok_Mo_forge rfl rfl ?_ ?_
  · intro h1
    show ab_Z m_Mo_forge _ _ _ 4 [_, _] [] _
    have hn := bI_0.mp h1
    refine ab_go ok_Mo_forge 1 rfl ?_
    show ab_Z m_Mo_forge _ _ _ 5 [_, _] [_] _
    exact ab_rZ ok_Mo_forge rfl (by first | decide | exact bB_01 _ | exact bI_01 _) (⟨by rw [bI_f hn], s, rfl, fun z => absurd z hn, fun _ => Kr.rf w4 s⟩)
  · intro h1
    show ab_Z m_Mo_forge _ _ _ 6 [_, _] [] _
    have hy := bI_n0 h1
    obtain ⟨e, he, rfl⟩ := inR_nat hy.1
    rw [nI_c (by omega)] at hy ⊢
    refine ab_go ok_Mo_forge 3 rfl ?_
    show ab_Z m_Mo_forge _ _ _ 9 [_, _] [_, _, _] _
    refine ab_cl ok_Mo_forge rfl [_, _, _] [] rfl ⟨_, _, rfl, rfl, Or.inl ⟨_, _, rfl, rfl⟩⟩ (Nat.le_of_ble_eq_true rfl) (t_Mo_becomes d fm X s T t hC hu hu4 he (-3)) ?_
    rintro _ _ ⟨rfl, s1, rfl, hR⟩
    show ab_Z m_Mo_forge _ _ _ 10 [_, _] [] _
    refine ab_go ok_Mo_forge 1 rfl ?_
    show ab_Z m_Mo_forge _ _ _ 11 [_, _] [_] _
    exact ab_rZ ok_Mo_forge rfl (by first | decide | exact bB_01 _ | exact bI_01 _) (⟨by rw [bI_t hy], s1, rfl, fun _ => hR, fun z => absurd hy z⟩)
theorem t_Mo_burn (hC : RC s lv T nc nd nt PT PG PB PF) {u : Nat} (hu : s 81 56 = nI u) (hu4 : u ≤ 40) (y : Int32) : ab_T g_Mo_burn (d + 3) (0, 0) [.ref 81, .int y] (HA fm X s t) (PD (inR nd y ∧ openB (vR T nc nd (s 114)) y.toNatClampNeg = false) fm X s T t nc nd u (burnR (vR T nc nd (s 114)) y.toNatClampNeg)) := by
  have h6 := hC.1.2.2.2.1.2
  have no : ¬ (inR nd y ∧ openB (vR T nc nd (s 114)) y.toNatClampNeg = false) → ab_Z m_Mo_burn (d + 3) (0, 0) (PD (inR nd y ∧ openB (vR T nc nd (s 114)) y.toNatClampNeg = false) fm X s T t nc nd u (burnR (vR T nc nd (s 114)) y.toNatClampNeg)) 8 [some (.ref 81), some (.int y)] [] (HA fm X s t) := by
    intro hn
    refine ab_go ok_Mo_burn 1 rfl ?_
    show ab_Z m_Mo_burn _ _ _ 9 [_, _] [_] _
    exact ab_rZ ok_Mo_burn rfl (by first | decide | exact bB_01 _ | exact bI_01 _) (⟨by rw [bI_f hn], s, rfl, fun z => absurd z hn, fun _ => Kr.rf w4 s⟩)
  refine ab_T_of (M := m_Mo_burn) rfl rfl (Nat.le_of_ble_eq_true rfl) ?_
  show ab_Z m_Mo_burn _ _ _ 0 [_, _] [] _
  refine ab_go ok_Mo_burn 2 rfl ?_
  show ab_Z m_Mo_burn _ _ _ 2 [_, _] [_, _] _
  refine ab_cl ok_Mo_burn rfl [_, _] [] rfl ⟨_, _, rfl, rfl, Or.inl ⟨_, _, rfl, rfl⟩⟩ (Nat.le_of_ble_eq_true rfl) (t_Mo_isDeed (d + 1) fm X s T t hC.1 y) ?_
  rintro _ _ ⟨rfl, rfl⟩
  show ab_Z m_Mo_burn _ _ _ 3 [_, _] [_] _
  refine ab_br ok_Mo_burn rfl rfl ?_ ?_
  · intro h1
    show ab_Z m_Mo_burn _ _ _ 8 [_, _] [] _
    exact no (fun z => bI_0.mp h1 z.1)
  · intro h1
    show ab_Z m_Mo_burn _ _ _ 4 [_, _] [] _
    have hy := bI_n0 h1
    refine ab_go ok_Mo_burn 2 rfl ?_
    show ab_Z m_Mo_burn _ _ _ 6 [_, _] [_, _] _
    refine ab_cl ok_Mo_burn rfl [_, _] [] rfl ⟨_, _, rfl, rfl, Or.inl ⟨_, _, rfl, rfl⟩⟩ (Nat.le_of_ble_eq_true rfl) (t_Mo_isOpen d fm X s T t hC.1 y) ?_
    rintro _ _ ⟨rfl, rfl⟩
    show ab_Z m_Mo_burn _ _ _ 7 [_, _] [_] _
    refine ab_br ok_Mo_burn rfl rfl ?_ ?_
    · intro h2
      show ab_Z m_Mo_burn _ _ _ 10 [_, _] [] _
      have hf : openB (vR T nc nd (s 114)) y.toNatClampNeg = false := by
        cases hx : openB (vR T nc nd (s 114)) y.toNatClampNeg
        · rfl
        · exact absurd ⟨hy, hx⟩ (bI_0.mp h2)
      have hyy : inR nd y ∧ openB (vR T nc nd (s 114)) y.toNatClampNeg = false := ⟨hy, hf⟩
      obtain ⟨e, he, rfl⟩ := inR_nat hy
      rw [nI_c (by omega)] at hyy ⊢
      refine ab_go ok_Mo_burn 3 rfl ?_
      show ab_Z m_Mo_burn _ _ _ 13 [_, _] [_, _, _] _
      refine ab_cl ok_Mo_burn rfl [_, _, _] [] rfl ⟨_, _, rfl, rfl, Or.inl ⟨_, _, rfl, rfl⟩⟩ (Nat.le_of_ble_eq_true rfl) (t_Mo_becomes d fm X s T t hC hu hu4 he (-2)) ?_
      rintro _ _ ⟨rfl, s1, rfl, hR⟩
      show ab_Z m_Mo_burn _ _ _ 14 [_, _] [] _
      refine ab_go ok_Mo_burn 1 rfl ?_
      show ab_Z m_Mo_burn _ _ _ 15 [_, _] [_] _
      exact ab_rZ ok_Mo_burn rfl (by first | decide | exact bB_01 _ | exact bI_01 _) (⟨by rw [bI_t hyy], s1, rfl, fun _ => hR, fun z => absurd hyy z⟩)
    · intro h2
      show ab_Z m_Mo_burn _ _ _ 8 [_, _] [] _
      exact no (fun z => by have := (bI_n0 h2).2; rw [z.2] at this; cases this)
theorem t_Mo_years (hC : RC s lv T nc nd nt PT PG PB PF) (hQ : QI (vR T nc nd (s 114)) nc nd nt) {u : Nat} (hu : s 81 56 = nI u) (hu4 : u ≤ 40) (x : Int32) : ab_T g_Mo_years (d + 5) (0, 0) [.ref 81, .int x] (HA fm X s t) (fun v h => v = some (.int (if inR 41 x then vR T nc nd (s 114) 11 39 + x else -1)) ∧ ∃ s', h = HA fm X s' t ∧ (inR 41 x ∧ 0 < x.toInt → RecV s s' T nc nd u (rowN (vR T nc nd (s 114)) PG PF nc nd x.toNatClampNeg)) ∧ (¬ (inR 41 x ∧ 0 < x.toInt) → Kr w4 s s')) := by
  have h5 := hC.1.2.2.1.2
  have h6 := hC.1.2.2.2.1.2
  refine ab_T_of (M := m_Mo_years) rfl rfl (Nat.le_of_ble_eq_true rfl) ?_
  show ab_Z m_Mo_years _ _ _ 0 [_, _] [] _
  refine ab_go ok_Mo_years 1 rfl ?_
  show ab_Z m_Mo_years _ _ _ 1 [_, _] [_] _
  refine ab_cl ok_Mo_years rfl [_] [] rfl rfl (Nat.le_of_ble_eq_true rfl) (t_Mo_isLong (d + 3) _ x) ?_
  rintro _ _ ⟨rfl, rfl⟩
  show ab_Z m_Mo_years _ _ _ 2 [_, _] [_] _
  refine ab_br ok_Mo_years rfl rfl ?_ ?_
  · intro h1
    show ab_Z m_Mo_years _ _ _ 3 [_, _] [] _
    have hn := bI_0.mp h1
    refine ab_go ok_Mo_years 1 rfl ?_
    show ab_Z m_Mo_years _ _ _ 4 [_, _] [_] _
    exact ab_rI ok_Mo_years rfl (⟨by rw [if_neg hn], s, rfl, fun z => absurd z.1 hn, fun _ => Kr.rf w4 s⟩)
  · intro h1
    show ab_Z m_Mo_years _ _ _ 5 [_, _] [] _
    have hx := bI_n0 h1
    rw [if_pos hx]
    refine ab_go ok_Mo_years 1 rfl ?_
    show ab_Z m_Mo_years _ _ _ 6 [_, _] [_] _
    refine ab_br ok_Mo_years rfl rfl ?_ ?_
    · intro h2
      show ab_Z m_Mo_years _ _ _ 7 [_, _] [] _
      have h2' : x = 0 := h2
      refine ab_go ok_Mo_years 3 rfl ?_
      show ab_Z m_Mo_years _ _ _ 10 [_, _] [_, _] _
      refine ab_go ok_Mo_years 1 rfl ?_
      show ab_Z m_Mo_years _ _ _ 11 [_, _] [_] _
      exact ab_rI ok_Mo_years rfl (⟨som (show s 114 39 = vR T nc nd (s 114) 11 39 + x from by rw [h2', Int32.add_zero, vR_y h5 h6]), s, rfl, fun z => by rw [h2'] at z; exact absurd z.2 (by decide), fun _ => Kr.rf w4 s⟩)
    · intro h2
      show ab_Z m_Mo_years _ _ _ 12 [_, _] [] _
      have hpos : inR 41 x ∧ 0 < x.toInt := by
        refine ⟨hx, ?_⟩
        have h0 := hx.1
        rcases Int.lt_or_eq_of_le h0 with h | h
        · exact h
        · exact absurd (Int32.toInt_inj.mp (show x.toInt = (0 : Int32).toInt from h.symm)) h2
      obtain ⟨n, hn, rfl⟩ := inR_nat hx
      rw [nI_c (by omega)]
      refine ab_go ok_Mo_years 1 rfl ?_
      show ab_Z m_Mo_years _ _ _ 13 [_, _] [_] _
      refine ab_cl ok_Mo_years rfl [_] [] rfl ⟨_, _, rfl, rfl, Or.inl ⟨_, _, rfl, rfl⟩⟩ (Nat.le_of_ble_eq_true rfl) (t_Mo_copies' (d + 4) fm X s T t hC) ?_
      rintro _ _ ⟨rfl, s1, rfl, k1, hC1, hv1, hl1, h40⟩
      show ab_Z m_Mo_years _ _ _ 14 [_, _] [] _
      refine ab_go ok_Mo_years 2 rfl ?_
      show ab_Z m_Mo_years _ _ _ 16 [_, _] [_, _] _
      refine ab_cl ok_Mo_years rfl [_, _] [] rfl ⟨_, _, rfl, rfl, Or.inl ⟨_, _, rfl, rfl⟩⟩ (Nat.le_of_ble_eq_true rfl) (t_Mo_goes d fm X s1 T t hC1 (by rw [hv1]; exact hQ.2) (show n < 1000 by omega)) ?_
      rintro _ _ ⟨rfl, s2, rfl, k2, -, hv2, hj2⟩
      show ab_Z m_Mo_years _ _ _ 17 [_, _] [] _
      rw [hv1] at hv2
      have k12 := k1.m34.tr k2.m34
      refine ab_go ok_Mo_years 1 rfl ?_
      show ab_Z m_Mo_years _ _ _ 18 [_, _] [_] _
      refine ab_cl ok_Mo_years rfl [_] [] rfl ⟨_, _, rfl, rfl, Or.inl ⟨_, _, rfl, rfl⟩⟩ (Nat.le_of_ble_eq_true rfl) (t_Mo_records (d + 3) fm X s2 t (u := u) (by rw [k12 81 56 rfl]; exact hu) hu4) ?_
      rintro _ _ ⟨rfl, s3, rfl, hR⟩
      show ab_Z m_Mo_years _ _ _ 19 [_, _] [] _
      have hRV : RecV s s3 T nc nd u (rowN (vR T nc nd (s 114)) PG PF nc nd n) := RecV.of h5 h6 k12 hR hv2 (fun j hj => (hj2 j hj).trans (h40 j (by unfold Ir at hj; omega)))
      refine ab_go ok_Mo_years 3 rfl ?_
      show ab_Z m_Mo_years _ _ _ 22 [_, _] [_, _] _
      refine ab_go ok_Mo_years 1 rfl ?_
      show ab_Z m_Mo_years _ _ _ 23 [_, _] [_] _
      exact ab_rI ok_Mo_years rfl (⟨som (show s3 114 39 = vR T nc nd (s 114) 11 39 + nI n from by rw [← vR_y (T := T) (r := s3 114) h5 h6, hRV.2.2.2.1, rowN_11]; exact (rowN_spec (vR T nc nd (s 114)) PG PF h5 h6 n).2.1), s3, rfl, fun _ => hRV, fun z => absurd hpos z⟩)
end

