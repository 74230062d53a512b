/-! the reference: a year -/
theorem dv3 : ∀ k, k < 18 → nI k / 3 = nI (k / 3) := by decide
theorem rm3 : ∀ k, k < 18 → nI (k / 3) * 3 = nI (3 * (k / 3)) := by decide
theorem rm3' {k : Nat} (h : k < 18) : nI k - nI (k / 3) * 3 = nI (k % 3) := by
  rw [rm3 k h, pk_sub (by omega)]
  congr 1
  omega
/-- levels and prints are in range -/
def LI (V : Nat → Nat → Int32) (nc nd : Nat) : Prop := (∀ c f, c < nc → f < 3 → 0 ≤ (V 11 (3 * c + f)).toInt ∧ (V 11 (3 * c + f)).toInt ≤ (V 17 (3 * c + f)).toInt ∧ (V 17 (3 * c + f)).toInt ≤ 9) ∧ (∀ e f, e < nd → f < 3 → 0 ≤ (V 11 (15 + 3 * e + f)).toInt ∧ (V 11 (15 + 3 * e + f)).toInt ≤ 9) ∧ ∀ e f, e < nd → f < 3 → 0 ≤ (V 20 (3 * e + f)).toInt ∧ (V 20 (3 * e + f)).toInt ≤ 9
theorem lev_w {V : Nat → Nat → Int32} {nc nd c f : Nat} (PG : List (List Ins)) (hI : LI V nc nd) (hc : c < nc) (hf : f < 3) : (if V 11 (3 * c + f) + grF PG (V 11 (3 * c + f)) (V 16 c + V 11 39) (nI f) (V 11 39) (nsV V nd c) (nI c) < 0 then 0 else if V 17 (3 * c + f) < V 11 (3 * c + f) + grF PG (V 11 (3 * c + f)) (V 16 c + V 11 39) (nI f) (V 11 39) (nsV V nd c) (nI c) then V 17 (3 * c + f) else V 11 (3 * c + f) + grF PG (V 11 (3 * c + f)) (V 16 c + V 11 39) (nI f) (V 11 39) (nsV V nd c) (nI c)) = levA V PG nd c f 1 := by
  rw [levA, levA, grV, nI_0, Int32.add_zero]
  obtain ⟨a1, a2, a3⟩ := hI.1 c f hc hf
  have hg := held_r (lawSem (vr 0 (V 11 (3 * c + f)) (V 16 c + V 11 39) 0 (nI f) (V 11 39) (nsV V nd c) (nI c) 0) PG) (m := 9) (by decide)
  rw [show heldF (lawSem (vr 0 (V 11 (3 * c + f)) (V 16 c + V 11 39) 0 (nI f) (V 11 39) (nsV V nd c) (nI c) 0) PG) 9 = grF PG (V 11 (3 * c + f)) (V 16 c + V 11 39) (nI f) (V 11 39) (nsV V nd c) (nI c) from rfl] at hg
  generalize grF PG (V 11 (3 * c + f)) (V 16 c + V 11 39) (nI f) (V 11 39) (nsV V nd c) (nI c) = g at hg ⊢
  have h9 : (9 : Int32).toInt = 9 := rfl
  have hs := i_addI (x := V 11 (3 * c + f)) (y := g) (by omega) (by omega)
  have h0 : (0 : Int32).toInt = 0 := rfl
  rw [if_neg (fun z => by have := i_lt z; omega)]
theorem prt_w {V : Nat → Nat → Int32} {nc nd e f : Nat} (PF : List (List Ins)) (hI : LI V nc nd) (he : e < nd) (hf : f < 3) : (if V 11 (15 + 3 * e + f) - fdF PF (V 20 (3 * e + f)) (V 19 e) (nI f) (V 11 39) (nI e) (V 11 (15 + 3 * e + f)) < 0 then 0 else if 9 < V 11 (15 + 3 * e + f) - fdF PF (V 20 (3 * e + f)) (V 19 e) (nI f) (V 11 39) (nI e) (V 11 (15 + 3 * e + f)) then 9 else V 11 (15 + 3 * e + f) - fdF PF (V 20 (3 * e + f)) (V 19 e) (nI f) (V 11 39) (nI e) (V 11 (15 + 3 * e + f))) = prtA V PF e f 1 := by
  rw [prtA, prtA, fdV, nI_0, Int32.add_zero]
  obtain ⟨a1, a2⟩ := hI.2.1 e f he hf
  generalize V 11 (15 + 3 * e + f) = p at a1 a2 ⊢
  have hg := held_r (lawSem (vr (V 20 (3 * e + f)) 0 0 (V 19 e) (nI f) (V 11 39) 0 (nI e) p) PF) (m := 9) (by decide)
  rw [show heldF (lawSem (vr (V 20 (3 * e + f)) 0 0 (V 19 e) (nI f) (V 11 39) 0 (nI e) p) PF) 9 = fdF PF (V 20 (3 * e + f)) (V 19 e) (nI f) (V 11 39) (nI e) p from rfl] at hg
  generalize fdF PF (V 20 (3 * e + f)) (V 19 e) (nI f) (V 11 39) (nI e) p = g at hg ⊢
  have h9 : (9 : Int32).toInt = 9 := rfl
  have h0 : (0 : Int32).toInt = 0 := rfl
  have hs := i_subI (x := p) (y := g) (by omega) (by omega)
  rw [if_neg (show ¬ 9 < p - g from fun z => by have := i_lt z; omega)]
  by_cases hp : p ≤ 0
  · rw [if_pos hp]
    have hp' := i_le hp
    by_cases hx : p - g < 0
    · rw [if_pos hx]; exact Int32.toInt_inj.mp (by omega)
    · rw [if_neg hx]
      have hx' := i_nlt hx
      exact Int32.toInt_inj.mp (by omega)
  · rw [if_neg hp]
theorem LI_year {V : Nat → Nat → Int32} {nc nd : Nat} {PG PF : List (List Ins)} (h5 : nc ≤ 5) (h6 : nd ≤ 6) (hI : LI V nc nd) : LI (ab_ro V 11 (yrR V PG PF nc nd)) nc nd := by
  have h9 : (9 : Int32).toInt = 9 := rfl
  have h0 : (0 : Int32).toInt = 0 := rfl
  refine ⟨fun c f hc hf => ?_, fun e f he hf => ?_, fun e f he hf => ?_⟩
  · rw [ab_ro_c, yrR_l hc h5 hf, ← lev_w PG hI hc hf]
    obtain ⟨a1, a2, a3⟩ := hI.1 c f hc hf
    have e17 : ab_ro V 11 (yrR V PG PF nc nd) 17 (3 * c + f) = V 17 (3 * c + f) := by rw [ab_ro_o (by decide)]
    rw [e17]
    generalize V 11 (3 * c + f) + grF PG (V 11 (3 * c + f)) (V 16 c + V 11 39) (nI f) (V 11 39) (nsV V nd c) (nI c) = x
    by_cases h1 : x < 0
    · rw [if_pos h1]; omega
    · rw [if_neg h1]
      have h1' := i_nlt h1
      by_cases h2 : V 17 (3 * c + f) < x
      · rw [if_pos h2]; omega
      · rw [if_neg h2]
        have := i_nlt h2
        omega
  · rw [ab_ro_c, yrR_p he h6 hf, ← prt_w PF hI he hf]
    generalize V 11 (15 + 3 * e + f) - fdF PF (V 20 (3 * e + f)) (V 19 e) (nI f) (V 11 39) (nI e) (V 11 (15 + 3 * e + f)) = x
    by_cases h1 : x < 0
    · rw [if_pos h1]; omega
    · rw [if_neg h1]
      have h1' := i_nlt h1
      by_cases h2 : 9 < x
      · rw [if_pos h2]; omega
      · rw [if_neg h2]
        have := i_nlt h2
        omega
  · rw [ab_ro_o (by decide)]; exact hI.2.2 e f he hf
/-- a number of a row that serves nobody -/
def Ir (nc nd j : Nat) : Prop := (3 * nc ≤ j ∧ j < 15) ∨ (21 + 3 * nd ≤ j ∧ j < 39)
theorem dm3 (k : Nat) : 3 * (k / 3) + k % 3 = k := Nat.div_add_mod k 3
section
variable (d : Nat) (fm : Value) (X : Nat × (Nat → Int32)) (s T : Nat → Nat → Int32) (t : Nat → Nat → Int64)
variable {lv nc nd nt : Nat} {PT PG PB PF : List (List Ins)}
theorem t_Mo_yearGoes (hC : RC s lv T nc nd nt PT PG PB PF) (hI : LI (vR T nc nd (s 115)) nc nd) : ab_T g_Mo_yearGoes (d + 3) (0, 0) [.ref 81] (HA fm X s t) (fun v h => v = none ∧ ∃ s', h = HA fm X s' t ∧ Kr w3 s s' ∧ s' 81 52 = s 81 52 ∧ vR T nc nd (s' 115) = ab_ro (vR T nc nd (s 115)) 11 (yrR (vR T nc nd (s 115)) PG PF nc nd) ∧ ∀ j, Ir nc nd j → s' 115 j = s 115 j) := by
  have hR := hC.1
  have h2 := hR.2.1
  have h5 := hR.2.2.1.2
  have h6 := hR.2.2.2.1.2
  generalize hPo : (fun v h => v = none ∧ ∃ s', h = HA fm X s' t ∧ Kr w3 s s' ∧ s' 81 52 = s 81 52 ∧ vR T nc nd (s' 115) = ab_ro (vR T nc nd (s 115)) 11 (yrR (vR T nc nd (s 115)) PG PF nc nd) ∧ ∀ j, Ir nc nd j → s' 115 j = s 115 j : Option Value → ab_H → Prop) = Po
  have e5 : ∀ s1, Kr w5 s s1 → s1 115 = s 115 := fun s1 h => h.row (fun _ => rfl)
  have hC1 : ∀ s1, Kr w5 s s1 → RC s1 lv T nc nd nt PT PG PB PF := fun s1 h => hC.k h.m53.m34
  have hlim : ∀ m, m ≤ 6 → (3 : Int32) * nI m = nI (3 * m) := fun m _ => by rw [LL3, pk_mul]
  obtain ⟨gN, hgN⟩ : ∃ gN : Nat → Int32, gN = fun j => grF PG (s 115 j) (T 16 (j / 3) + s 115 39) (nI (j % 3)) (s 115 39) (nsV (vR T nc nd (s 115)) nd (j / 3)) (nI (j / 3)) := ⟨_, rfl⟩
  obtain ⟨fN, hfN⟩ : ∃ fN : Nat → Int32, fN = fun j => fdF PF (T 20 j) (T 19 (j / 3)) (nI (j % 3)) (s 115 39) (nI (j / 3)) (s 115 (21 + j)) := ⟨_, rfl⟩
  obtain ⟨Lv, hLv⟩ : ∃ Lv : Nat → Int32, Lv = fun j => if s 115 j + gN j < 0 then 0 else if T 17 j < s 115 j + gN j then T 17 j else s 115 j + gN j := ⟨_, rfl⟩
  obtain ⟨Pr, hPr⟩ : ∃ Pr : Nat → Int32, Pr = fun j => if s 115 (21 + j) - fN j < 0 then 0 else if 9 < s 115 (21 + j) - fN j then 9 else s 115 (21 + j) - fN j := ⟨_, rfl⟩
  have fin : ∀ s2, Kr w5 s s2 → Po none (HA fm X (ab_ro s2 115 (upd (fillR (fillR (s 115) 0 (3 * nc) Lv) 21 (3 * nd) Pr) 39 (s 115 39 + 1))) t) := by
    intro s2 hk
    rw [← hPo]
    refine ⟨rfl, _, rfl, Kr.ro (fun _ => rfl) hk.m53, by rw [ab_ro_o (by decide)]; exact hk 81 52 rfl, ?_, fun j hj => by
      unfold Ir at hj
      rw [ab_ro_c]
      unfold upd
      rw [if_neg (by omega), fillR_o (by omega), fillR_o (by omega)]⟩
    rw [ab_ro_c]
    apply vR_of
    unfold yrR
    rw [rwF_uy h5 h6, show fillR (fillR (s 115) 0 (3 * nc) Lv) 21 (3 * nd) Pr = fillR (fillR (s 115) 0 (3 * nc) Lv) (21 + 0) (3 * nd) Pr from rfl, rwF_fp h5 h6 (by omega), rwF_fl h5 (by omega), ← vR_11, vR_y h5 h6]
    congr 1
    rw [fillR_cg (g := Lv) (g' := yrL (vR T nc nd (s 115)) PG nd) (fun j hj => ?_)]
    · refine fillR_cg (fun j hj => ?_)
      have hj3 : j % 3 < 3 := Nat.mod_lt _ (by decide)
      have hjn : j / 3 < nd := by omega
      have := prt_w PF hI hjn hj3
      rw [vR_p h5 hjn hj3, vR_y h5 h6, vR_o (show (20 : Nat) ≠ 11 by decide), vR_o (show (19 : Nat) ≠ 11 by decide), Nat.add_assoc, dm3] at this
      rw [hPr, hfN]
      exact this
    · have hj3 : j % 3 < 3 := Nat.mod_lt _ (by decide)
      have hjn : j / 3 < nc := by omega
      have := lev_w PG hI hjn hj3
      rw [vR_l hjn hj3, vR_y h5 h6, vR_o (show (16 : Nat) ≠ 11 by decide), vR_o (show (17 : Nat) ≠ 11 by decide), dm3] at this
      rw [hLv, hgN]
      exact this
  refine ab_T_of (M := m_Mo_yearGoes) rfl rfl (Nat.le_of_ble_eq_true rfl) ?_
  show ab_Z m_Mo_yearGoes _ _ _ 0 [_, _] [] _
  refine ab_go ok_Mo_yearGoes 2 rfl ?_
  show ab_Z m_Mo_yearGoes _ _ _ 2 [_, _] [] _
  refine lp_dn (3 * nc) (fun k => ∀ s1, Kr w5 s s1 → (∀ j, j < k → s1 117 j = gN j) → ab_Z m_Mo_yearGoes (d + 3) (0, 0) Po 2 [some (.ref 81), some (.int (nI k))] [] (HA fm X s1 t)) ?_ ?_ s (Kr.rf w5 s) (fun j hj => absurd hj (by omega))
  · intro s1 hk q
    refine ab_go ok_Mo_yearGoes 6 rfl ?_
    show ab_Z m_Mo_yearGoes _ _ _ 8 [_, _] [_, _, _, _] _
    rw [(hC1 s1 hk).1.1]
    refine ab_ia ok_Mo_yearGoes rfl rfl (k := lv) (by first | rfl | (simp only [LL1, LL2, LL3, LL4, LL5, LL6, LL7, LL8, LL10, LL15, LL18, LL20, LL21, LL22, LL23, LL24, LL32, LL39, LL40, LL130, LL420, pk_mul, nI_add]; done) | (simp only [LL1, LL2, LL3, LL4, LL5, LL6, LL7, LL8, LL10, LL15, LL18, LL20, LL21, LL22, LL23, LL24, LL32, LL39, LL40, LL130, LL420, pk_mul, nI_add]; congr 1; omega)) (by omega) (Nat.le_of_ble_eq_true rfl) ?_
    show ab_Z m_Mo_yearGoes _ _ _ 9 [_, _] [_, _, _] _
    rw [(hC1 s1 hk).1.2.2.1.1]
    refine ab_go ok_Mo_yearGoes 1 rfl ?_
    show ab_Z m_Mo_yearGoes _ _ _ 10 [_, _] [_, _] _
    rw [hlim nc (by omega)]
    refine ab_br ok_Mo_yearGoes rfl rfl ?_ ?_
    · intro h1
      show ab_Z m_Mo_yearGoes _ _ _ 25 [_, _] [] _
      refine ab_go ok_Mo_yearGoes 2 rfl ?_
      show ab_Z m_Mo_yearGoes _ _ _ 27 [_, _] [] _
      refine lp_dn (3 * nd) (fun k => ∀ s2, Kr w5 s s2 → (∀ j, j < 3 * nc → s2 117 j = gN j) → (∀ j, j < k → s2 118 j = fN j) → ab_Z m_Mo_yearGoes (d + 3) (0, 0) Po 27 [some (.ref 81), some (.int (nI k))] [] (HA fm X s2 t)) ?_ ?_ s1 hk q (fun j hj => absurd hj (by omega))
      · intro s2 hk2 q2 p2
        have hC2 := hC1 s2 hk2
        refine ab_go ok_Mo_yearGoes 6 rfl ?_
        show ab_Z m_Mo_yearGoes _ _ _ 33 [_, _] [_, _, _, _] _
        rw [hC2.1.1]
        refine ab_ia ok_Mo_yearGoes rfl rfl (k := lv) (by first | rfl | (simp only [LL1, LL2, LL3, LL4, LL5, LL6, LL7, LL8, LL10, LL15, LL18, LL20, LL21, LL22, LL23, LL24, LL32, LL39, LL40, LL130, LL420, pk_mul, nI_add]; done) | (simp only [LL1, LL2, LL3, LL4, LL5, LL6, LL7, LL8, LL10, LL15, LL18, LL20, LL21, LL22, LL23, LL24, LL32, LL39, LL40, LL130, LL420, pk_mul, nI_add]; congr 1; omega)) (by omega) (Nat.le_of_ble_eq_true rfl) ?_
        show ab_Z m_Mo_yearGoes _ _ _ 34 [_, _] [_, _, _] _
        rw [hC2.1.2.2.2.1.1]
        refine ab_go ok_Mo_yearGoes 1 rfl ?_
        show ab_Z m_Mo_yearGoes _ _ _ 35 [_, _] [_, _] _
        rw [hlim nd (by omega)]
        refine ab_br ok_Mo_yearGoes rfl rfl ?_ ?_
        · intro h3
          show ab_Z m_Mo_yearGoes _ _ _ 50 [_, _] [] _
          refine ab_go ok_Mo_yearGoes 2 rfl ?_
          show ab_Z m_Mo_yearGoes _ _ _ 52 [_, _] [] _
          have L3 := lp_dn (3 * nc) (fun k => ab_Z m_Mo_yearGoes (d + 3) (0, 0) Po 52 [some (.ref 81), some (.int (nI k))] [] (HA fm X (ab_ro s2 115 (fillR (s 115) 0 k Lv)) t)) ?_ ?_
          · rw [fillR_0, ← e5 s2 hk2, ro_id] at L3
            exact L3
          · refine ab_go ok_Mo_yearGoes 6 rfl ?_
            show ab_Z m_Mo_yearGoes _ _ _ 58 [_, _] [_, _, _, _] _
            rw [show ab_ro s2 115 (fillR (s 115) 0 (3 * nc) Lv) 81 18 = nI lv from hC2.1.1]
            refine ab_ia ok_Mo_yearGoes rfl rfl (k := lv) (by first | rfl | (simp only [LL1, LL2, LL3, LL4, LL5, LL6, LL7, LL8, LL10, LL15, LL18, LL20, LL21, LL22, LL23, LL24, LL32, LL39, LL40, LL130, LL420, pk_mul, nI_add]; done) | (simp only [LL1, LL2, LL3, LL4, LL5, LL6, LL7, LL8, LL10, LL15, LL18, LL20, LL21, LL22, LL23, LL24, LL32, LL39, LL40, LL130, LL420, pk_mul, nI_add]; congr 1; omega)) (by omega) (Nat.le_of_ble_eq_true rfl) ?_
            show ab_Z m_Mo_yearGoes _ _ _ 59 [_, _] [_, _, _] _
            rw [show ab_ro s2 115 (fillR (s 115) 0 (3 * nc) Lv) 91 lv = nI nc from hC2.1.2.2.1.1]
            refine ab_go ok_Mo_yearGoes 1 rfl ?_
            show ab_Z m_Mo_yearGoes _ _ _ 60 [_, _] [_, _] _
            rw [hlim nc (by omega)]
            refine ab_br ok_Mo_yearGoes rfl rfl ?_ ?_
            · intro h4
              show ab_Z m_Mo_yearGoes _ _ _ 86 [_, _] [] _
              refine ab_go ok_Mo_yearGoes 2 rfl ?_
              show ab_Z m_Mo_yearGoes _ _ _ 88 [_, _] [] _
              have L4 := lp_dn (3 * nd) (fun k => ab_Z m_Mo_yearGoes (d + 3) (0, 0) Po 88 [some (.ref 81), some (.int (nI k))] [] (HA fm X (ab_ro s2 115 (fillR (fillR (s 115) 0 (3 * nc) Lv) 21 k Pr)) t)) ?_ ?_
              · rw [fillR_0] at L4
                exact L4
              · refine ab_go ok_Mo_yearGoes 6 rfl ?_
                show ab_Z m_Mo_yearGoes _ _ _ 94 [_, _] [_, _, _, _] _
                rw [show ab_ro s2 115 (fillR (fillR (s 115) 0 (3 * nc) Lv) 21 (3 * nd) Pr) 81 18 = nI lv from hC2.1.1]
                refine ab_ia ok_Mo_yearGoes rfl rfl (k := lv) (by first | rfl | (simp only [LL1, LL2, LL3, LL4, LL5, LL6, LL7, LL8, LL10, LL15, LL18, LL20, LL21, LL22, LL23, LL24, LL32, LL39, LL40, LL130, LL420, pk_mul, nI_add]; done) | (simp only [LL1, LL2, LL3, LL4, LL5, LL6, LL7, LL8, LL10, LL15, LL18, LL20, LL21, LL22, LL23, LL24, LL32, LL39, LL40, LL130, LL420, pk_mul, nI_add]; congr 1; omega)) (by omega) (Nat.le_of_ble_eq_true rfl) ?_
                show ab_Z m_Mo_yearGoes _ _ _ 95 [_, _] [_, _, _] _
                rw [show ab_ro s2 115 (fillR (fillR (s 115) 0 (3 * nc) Lv) 21 (3 * nd) Pr) 94 lv = nI nd from hC2.1.2.2.2.1.1]
                refine ab_go ok_Mo_yearGoes 1 rfl ?_
                show ab_Z m_Mo_yearGoes _ _ _ 96 [_, _] [_, _] _
                rw [hlim nd (by omega)]
                refine ab_br ok_Mo_yearGoes rfl rfl ?_ ?_
                · intro h7
                  show ab_Z m_Mo_yearGoes _ _ _ 119 [_, _] [] _
                  refine ab_go ok_Mo_yearGoes 4 rfl ?_
                  show ab_Z m_Mo_yearGoes _ _ _ 123 [_, _] [_, _, _, _] _
                  refine ab_ia ok_Mo_yearGoes rfl rfl (k := 39) (by first | rfl | (simp only [LL1, LL2, LL3, LL4, LL5, LL6, LL7, LL8, LL10, LL15, LL18, LL20, LL21, LL22, LL23, LL24, LL32, LL39, LL40, LL130, LL420, pk_mul, nI_add]; done) | (simp only [LL1, LL2, LL3, LL4, LL5, LL6, LL7, LL8, LL10, LL15, LL18, LL20, LL21, LL22, LL23, LL24, LL32, LL39, LL40, LL130, LL420, pk_mul, nI_add]; congr 1; omega)) (by omega) (Nat.le_of_ble_eq_true rfl) ?_
                  show ab_Z m_Mo_yearGoes _ _ _ 124 [_, _] [_, _, _] _
                  rw [ab_ro_c, fillR_o (by omega), fillR_o (by omega)]
                  refine ab_go ok_Mo_yearGoes 2 rfl ?_
                  show ab_Z m_Mo_yearGoes _ _ _ 126 [_, _] [_, _, _] _
                  refine ab_is ok_Mo_yearGoes rfl rfl (k := 39) (by first | rfl | (simp only [LL1, LL2, LL3, LL4, LL5, LL6, LL7, LL8, LL10, LL15, LL18, LL20, LL21, LL22, LL23, LL24, LL32, LL39, LL40, LL130, LL420, pk_mul, nI_add]; done) | (simp only [LL1, LL2, LL3, LL4, LL5, LL6, LL7, LL8, LL10, LL15, LL18, LL20, LL21, LL22, LL23, LL24, LL32, LL39, LL40, LL130, LL420, pk_mul, nI_add]; congr 1; omega)) (by omega) (Nat.le_of_ble_eq_true rfl) ?_
                  show ab_Z m_Mo_yearGoes _ _ _ 127 [_, _] [] _
                  rw [ro_up]
                  exact ab_rV ok_Mo_yearGoes rfl (fin s2 hk2)
                · intro h7
                  show ab_Z m_Mo_yearGoes _ _ _ 97 [_, _] [] _
                  exact absurd (lp_out _) h7
              · intro k hk3 ih
                refine ab_go ok_Mo_yearGoes 6 rfl ?_
                show ab_Z m_Mo_yearGoes _ _ _ 94 [_, _] [_, _, _, _] _
                rw [show ab_ro s2 115 (fillR (fillR (s 115) 0 (3 * nc) Lv) 21 k Pr) 81 18 = nI lv from hC2.1.1]
                refine ab_ia ok_Mo_yearGoes rfl rfl (k := lv) (by first | rfl | (simp only [LL1, LL2, LL3, LL4, LL5, LL6, LL7, LL8, LL10, LL15, LL18, LL20, LL21, LL22, LL23, LL24, LL32, LL39, LL40, LL130, LL420, pk_mul, nI_add]; done) | (simp only [LL1, LL2, LL3, LL4, LL5, LL6, LL7, LL8, LL10, LL15, LL18, LL20, LL21, LL22, LL23, LL24, LL32, LL39, LL40, LL130, LL420, pk_mul, nI_add]; congr 1; omega)) (by omega) (Nat.le_of_ble_eq_true rfl) ?_
                show ab_Z m_Mo_yearGoes _ _ _ 95 [_, _] [_, _, _] _
                rw [show ab_ro s2 115 (fillR (fillR (s 115) 0 (3 * nc) Lv) 21 k Pr) 94 lv = nI nd from hC2.1.2.2.2.1.1]
                refine ab_go ok_Mo_yearGoes 1 rfl ?_
                show ab_Z m_Mo_yearGoes _ _ _ 96 [_, _] [_, _] _
                rw [hlim nd (by omega)]
                refine ab_br ok_Mo_yearGoes rfl rfl ?_ ?_
                · intro h7
                  show ab_Z m_Mo_yearGoes _ _ _ 119 [_, _] [] _
                  exact absurd h7 (lp_in (by omega) hk3)
                · intro h7
                  show ab_Z m_Mo_yearGoes _ _ _ 97 [_, _] [] _
                  refine ab_go ok_Mo_yearGoes 10 rfl ?_
                  show ab_Z m_Mo_yearGoes _ _ _ 107 [_, _] [_, _, _, _] _
                  refine ab_ia ok_Mo_yearGoes rfl rfl (k := (21 + k)) (by first | rfl | (simp only [LL1, LL2, LL3, LL4, LL5, LL6, LL7, LL8, LL10, LL15, LL18, LL20, LL21, LL22, LL23, LL24, LL32, LL39, LL40, LL130, LL420, pk_mul, nI_add]; done) | (simp only [LL1, LL2, LL3, LL4, LL5, LL6, LL7, LL8, LL10, LL15, LL18, LL20, LL21, LL22, LL23, LL24, LL32, LL39, LL40, LL130, LL420, pk_mul, nI_add]; congr 1; omega)) (by omega) (Nat.le_of_ble_eq_true rfl) ?_
                  show ab_Z m_Mo_yearGoes _ _ _ 108 [_, _] [_, _, _] _
                  rw [ab_ro_c, fillR_o (by omega), fillR_o (by omega)]
                  refine ab_go ok_Mo_yearGoes 3 rfl ?_
                  show ab_Z m_Mo_yearGoes _ _ _ 111 [_, _] [_, _, _, _, _] _
                  refine ab_ia ok_Mo_yearGoes rfl rfl (k := k) (by first | rfl | (simp only [LL1, LL2, LL3, LL4, LL5, LL6, LL7, LL8, LL10, LL15, LL18, LL20, LL21, LL22, LL23, LL24, LL32, LL39, LL40, LL130, LL420, pk_mul, nI_add]; done) | (simp only [LL1, LL2, LL3, LL4, LL5, LL6, LL7, LL8, LL10, LL15, LL18, LL20, LL21, LL22, LL23, LL24, LL32, LL39, LL40, LL130, LL420, pk_mul, nI_add]; congr 1; omega)) (by omega) (Nat.le_of_ble_eq_true rfl) ?_
                  show ab_Z m_Mo_yearGoes _ _ _ 112 [_, _] [_, _, _, _] _
                  rw [show ab_ro s2 115 (fillR (fillR (s 115) 0 (3 * nc) Lv) 21 k Pr) 118 k = fN k from p2 k hk3]
                  refine ab_go ok_Mo_yearGoes 3 rfl ?_
                  show ab_Z m_Mo_yearGoes _ _ _ 115 [_, _] [_, _, _, _, _] _
                  refine ab_cl ok_Mo_yearGoes rfl [_, _, _] [_, _] rfl rfl (Nat.le_of_ble_eq_true rfl) (t_Mo_within (d + 2) _ _ _ _) ?_
                  rintro _ _ ⟨rfl, rfl⟩
                  show ab_Z m_Mo_yearGoes _ _ _ 116 [_, _] [_, _, _] _
                  refine ab_is ok_Mo_yearGoes rfl rfl (k := (21 + k)) (by first | rfl | (simp only [LL1, LL2, LL3, LL4, LL5, LL6, LL7, LL8, LL10, LL15, LL18, LL20, LL21, LL22, LL23, LL24, LL32, LL39, LL40, LL130, LL420, pk_mul, nI_add]; done) | (simp only [LL1, LL2, LL3, LL4, LL5, LL6, LL7, LL8, LL10, LL15, LL18, LL20, LL21, LL22, LL23, LL24, LL32, LL39, LL40, LL130, LL420, pk_mul, nI_add]; congr 1; omega)) (by omega) (Nat.le_of_ble_eq_true rfl) ?_
                  show ab_Z m_Mo_yearGoes _ _ _ 117 [_, _] [] _
                  rw [ro_up, show (if s 115 (21 + k) - fN k < 0 then 0 else if 9 < s 115 (21 + k) - fN k then 9 else s 115 (21 + k) - fN k) = Pr k from by rw [hPr], fillR_s]
                  refine ab_go ok_Mo_yearGoes 2 rfl ?_
                  show ab_Z m_Mo_yearGoes _ _ _ 88 [_, _] [] _
                  rw [nI_succ] at ih
                  exact ih
            · intro h4
              show ab_Z m_Mo_yearGoes _ _ _ 61 [_, _] [] _
              exact absurd (lp_out _) h4
          · intro k hk3 ih
            refine ab_go ok_Mo_yearGoes 6 rfl ?_
            show ab_Z m_Mo_yearGoes _ _ _ 58 [_, _] [_, _, _, _] _
            rw [show ab_ro s2 115 (fillR (s 115) 0 k Lv) 81 18 = nI lv from hC2.1.1]
            refine ab_ia ok_Mo_yearGoes rfl rfl (k := lv) (by first | rfl | (simp only [LL1, LL2, LL3, LL4, LL5, LL6, LL7, LL8, LL10, LL15, LL18, LL20, LL21, LL22, LL23, LL24, LL32, LL39, LL40, LL130, LL420, pk_mul, nI_add]; done) | (simp only [LL1, LL2, LL3, LL4, LL5, LL6, LL7, LL8, LL10, LL15, LL18, LL20, LL21, LL22, LL23, LL24, LL32, LL39, LL40, LL130, LL420, pk_mul, nI_add]; congr 1; omega)) (by omega) (Nat.le_of_ble_eq_true rfl) ?_
            show ab_Z m_Mo_yearGoes _ _ _ 59 [_, _] [_, _, _] _
            rw [show ab_ro s2 115 (fillR (s 115) 0 k Lv) 91 lv = nI nc from hC2.1.2.2.1.1]
            refine ab_go ok_Mo_yearGoes 1 rfl ?_
            show ab_Z m_Mo_yearGoes _ _ _ 60 [_, _] [_, _] _
            rw [hlim nc (by omega)]
            refine ab_br ok_Mo_yearGoes rfl rfl ?_ ?_
            · intro h4
              show ab_Z m_Mo_yearGoes _ _ _ 86 [_, _] [] _
              exact absurd h4 (lp_in (by omega) hk3)
            · intro h4
              show ab_Z m_Mo_yearGoes _ _ _ 61 [_, _] [] _
              refine ab_go ok_Mo_yearGoes 6 rfl ?_
              show ab_Z m_Mo_yearGoes _ _ _ 67 [_, _] [_, _, _, _] _
              refine ab_ia ok_Mo_yearGoes rfl rfl (k := k) (by first | rfl | (simp only [LL1, LL2, LL3, LL4, LL5, LL6, LL7, LL8, LL10, LL15, LL18, LL20, LL21, LL22, LL23, LL24, LL32, LL39, LL40, LL130, LL420, pk_mul, nI_add]; done) | (simp only [LL1, LL2, LL3, LL4, LL5, LL6, LL7, LL8, LL10, LL15, LL18, LL20, LL21, LL22, LL23, LL24, LL32, LL39, LL40, LL130, LL420, pk_mul, nI_add]; congr 1; omega)) (by omega) (Nat.le_of_ble_eq_true rfl) ?_
              show ab_Z m_Mo_yearGoes _ _ _ 68 [_, _] [_, _, _] _
              rw [ab_ro_c, fillR_o (by omega)]
              refine ab_go ok_Mo_yearGoes 3 rfl ?_
              show ab_Z m_Mo_yearGoes _ _ _ 71 [_, _] [_, _, _, _, _] _
              refine ab_ia ok_Mo_yearGoes rfl rfl (k := k) (by first | rfl | (simp only [LL1, LL2, LL3, LL4, LL5, LL6, LL7, LL8, LL10, LL15, LL18, LL20, LL21, LL22, LL23, LL24, LL32, LL39, LL40, LL130, LL420, pk_mul, nI_add]; done) | (simp only [LL1, LL2, LL3, LL4, LL5, LL6, LL7, LL8, LL10, LL15, LL18, LL20, LL21, LL22, LL23, LL24, LL32, LL39, LL40, LL130, LL420, pk_mul, nI_add]; congr 1; omega)) (by omega) (Nat.le_of_ble_eq_true rfl) ?_
              show ab_Z m_Mo_yearGoes _ _ _ 72 [_, _] [_, _, _, _] _
              rw [show ab_ro s2 115 (fillR (s 115) 0 k Lv) 117 k = gN k from q2 k hk3]
              refine ab_go ok_Mo_yearGoes 5 rfl ?_
              show ab_Z m_Mo_yearGoes _ _ _ 77 [_, _] [_, _, _, _, _, _, _] _
              refine ab_go ok_Mo_yearGoes 1 rfl ?_
              show ab_Z m_Mo_yearGoes _ _ _ 78 [_, _] [_, _, _, _, _, _] _
              refine ab_go ok_Mo_yearGoes 2 rfl ?_
              show ab_Z m_Mo_yearGoes _ _ _ 80 [_, _] [_, _, _, _, _, _, _, _] _
              refine ab_go ok_Mo_yearGoes 1 rfl ?_
              show ab_Z m_Mo_yearGoes _ _ _ 81 [_, _] [_, _, _, _, _, _, _] _
              rw [dv3 k (by omega), rm3' (by omega)]
              refine ab_cl ok_Mo_yearGoes rfl [_, _, _] [_, _, _, _] rfl ⟨_, _, rfl, rfl, Or.inl ⟨_, _, rfl, rfl⟩⟩ (Nat.le_of_ble_eq_true rfl) (t_Mo_firstLevel (d + 2) fm X _ T t (hC2.1.k (Kr.ro (W := w4) (c := 115) (fun _ => rfl) (Kr.rf w4 s2))) (show k / 3 < nc by omega) (Nat.mod_lt _ (by decide))) ?_
              rintro _ _ ⟨rfl, rfl⟩
              show ab_Z m_Mo_yearGoes _ _ _ 82 [_, _] [_, _, _, _, _] _
              rw [dm3]
              refine ab_cl ok_Mo_yearGoes rfl [_, _, _] [_, _] rfl rfl (Nat.le_of_ble_eq_true rfl) (t_Mo_within (d + 2) _ _ _ _) ?_
              rintro _ _ ⟨rfl, rfl⟩
              show ab_Z m_Mo_yearGoes _ _ _ 83 [_, _] [_, _, _] _
              refine ab_is ok_Mo_yearGoes rfl rfl (k := k) (by first | rfl | (simp only [LL1, LL2, LL3, LL4, LL5, LL6, LL7, LL8, LL10, LL15, LL18, LL20, LL21, LL22, LL23, LL24, LL32, LL39, LL40, LL130, LL420, pk_mul, nI_add]; done) | (simp only [LL1, LL2, LL3, LL4, LL5, LL6, LL7, LL8, LL10, LL15, LL18, LL20, LL21, LL22, LL23, LL24, LL32, LL39, LL40, LL130, LL420, pk_mul, nI_add]; congr 1; omega)) (by omega) (Nat.le_of_ble_eq_true rfl) ?_
              show ab_Z m_Mo_yearGoes _ _ _ 84 [_, _] [] _
              rw [ro_up, show (if s 115 k + gN k < 0 then 0 else if T 17 k < s 115 k + gN k then T 17 k else s 115 k + gN k) = Lv k from by rw [hLv], fillR_z]
              refine ab_go ok_Mo_yearGoes 2 rfl ?_
              show ab_Z m_Mo_yearGoes _ _ _ 52 [_, _] [] _
              rw [nI_succ] at ih
              exact ih
        · intro h3
          show ab_Z m_Mo_yearGoes _ _ _ 36 [_, _] [] _
          exact absurd (lp_out _) h3
      · intro k hk3 ih s2 hk2 q2 p2
        have hC2 := hC1 s2 hk2
        refine ab_go ok_Mo_yearGoes 6 rfl ?_
        show ab_Z m_Mo_yearGoes _ _ _ 33 [_, _] [_, _, _, _] _
        rw [hC2.1.1]
        refine ab_ia ok_Mo_yearGoes rfl rfl (k := lv) (by first | rfl | (simp only [LL1, LL2, LL3, LL4, LL5, LL6, LL7, LL8, LL10, LL15, LL18, LL20, LL21, LL22, LL23, LL24, LL32, LL39, LL40, LL130, LL420, pk_mul, nI_add]; done) | (simp only [LL1, LL2, LL3, LL4, LL5, LL6, LL7, LL8, LL10, LL15, LL18, LL20, LL21, LL22, LL23, LL24, LL32, LL39, LL40, LL130, LL420, pk_mul, nI_add]; congr 1; omega)) (by omega) (Nat.le_of_ble_eq_true rfl) ?_
        show ab_Z m_Mo_yearGoes _ _ _ 34 [_, _] [_, _, _] _
        rw [hC2.1.2.2.2.1.1]
        refine ab_go ok_Mo_yearGoes 1 rfl ?_
        show ab_Z m_Mo_yearGoes _ _ _ 35 [_, _] [_, _] _
        rw [hlim nd (by omega)]
        refine ab_br ok_Mo_yearGoes rfl rfl ?_ ?_
        · intro h3
          show ab_Z m_Mo_yearGoes _ _ _ 50 [_, _] [] _
          exact absurd h3 (lp_in (by omega) hk3)
        · intro h3
          show ab_Z m_Mo_yearGoes _ _ _ 36 [_, _] [] _
          refine ab_go ok_Mo_yearGoes 6 rfl ?_
          show ab_Z m_Mo_yearGoes _ _ _ 42 [_, _] [_, _, _, _, _] _
          refine ab_go ok_Mo_yearGoes 1 rfl ?_
          show ab_Z m_Mo_yearGoes _ _ _ 43 [_, _] [_, _, _, _] _
          refine ab_go ok_Mo_yearGoes 2 rfl ?_
          show ab_Z m_Mo_yearGoes _ _ _ 45 [_, _] [_, _, _, _, _, _] _
          refine ab_go ok_Mo_yearGoes 1 rfl ?_
          show ab_Z m_Mo_yearGoes _ _ _ 46 [_, _] [_, _, _, _, _] _
          rw [dv3 k (by omega), rm3' (by omega)]
          refine ab_cl ok_Mo_yearGoes rfl [_, _, _] [_, _] rfl ⟨_, _, rfl, rfl, Or.inl ⟨_, _, rfl, rfl⟩⟩ (Nat.le_of_ble_eq_true rfl) (t_Mo_fadesOf d fm X s2 T t hC2 (show k / 3 < nd by omega) (Nat.mod_lt _ (by decide))) ?_
          rintro _ _ ⟨rfl, s3, rfl, hk4⟩
          show ab_Z m_Mo_yearGoes _ _ _ 47 [_, _] [_, _, _] _
          rw [e5 s2 hk2, Nat.add_assoc 21, dm3, show fdF PF (T 20 k) (T 19 (k / 3)) (nI (k % 3)) (s 115 39) (nI (k / 3)) (s 115 (21 + k)) = fN k from by rw [hfN]]
          refine ab_is ok_Mo_yearGoes rfl rfl (k := k) (by first | rfl | (simp only [LL1, LL2, LL3, LL4, LL5, LL6, LL7, LL8, LL10, LL15, LL18, LL20, LL21, LL22, LL23, LL24, LL32, LL39, LL40, LL130, LL420, pk_mul, nI_add]; done) | (simp only [LL1, LL2, LL3, LL4, LL5, LL6, LL7, LL8, LL10, LL15, LL18, LL20, LL21, LL22, LL23, LL24, LL32, LL39, LL40, LL130, LL420, pk_mul, nI_add]; congr 1; omega)) (by omega) (Nat.le_of_ble_eq_true rfl) ?_
          show ab_Z m_Mo_yearGoes _ _ _ 48 [_, _] [] _
          refine ab_go ok_Mo_yearGoes 2 rfl ?_
          show ab_Z m_Mo_yearGoes _ _ _ 27 [_, _] [] _
          have ih2 := ih _ (Kr.up (c := 118) (k := k) (v := fN k) rfl (hk2.tr hk4.m15)) (fun j hj => by rw [ab_up_o (by decide), hk4 117 j rfl]; exact q2 j hj) (fun j hj => by
            by_cases hjk : j = k
            · subst hjk; rw [ab_up_s]
            · rw [ab_up_n hjk, hk4 118 j rfl]; exact p2 j (by omega))
          rw [nI_succ] at ih2
          exact ih2
    · intro h1
      show ab_Z m_Mo_yearGoes _ _ _ 11 [_, _] [] _
      exact absurd (lp_out _) h1
  · intro k hk3 ih s1 hk q
    have hC2 := hC1 s1 hk
    refine ab_go ok_Mo_yearGoes 6 rfl ?_
    show ab_Z m_Mo_yearGoes _ _ _ 8 [_, _] [_, _, _, _] _
    rw [hC2.1.1]
    refine ab_ia ok_Mo_yearGoes rfl rfl (k := lv) (by first | rfl | (simp only [LL1, LL2, LL3, LL4, LL5, LL6, LL7, LL8, LL10, LL15, LL18, LL20, LL21, LL22, LL23, LL24, LL32, LL39, LL40, LL130, LL420, pk_mul, nI_add]; done) | (simp only [LL1, LL2, LL3, LL4, LL5, LL6, LL7, LL8, LL10, LL15, LL18, LL20, LL21, LL22, LL23, LL24, LL32, LL39, LL40, LL130, LL420, pk_mul, nI_add]; congr 1; omega)) (by omega) (Nat.le_of_ble_eq_true rfl) ?_
    show ab_Z m_Mo_yearGoes _ _ _ 9 [_, _] [_, _, _] _
    rw [hC2.1.2.2.1.1]
    refine ab_go ok_Mo_yearGoes 1 rfl ?_
    show ab_Z m_Mo_yearGoes _ _ _ 10 [_, _] [_, _] _
    rw [hlim nc (by omega)]
    refine ab_br ok_Mo_yearGoes rfl rfl ?_ ?_
    · intro h1
      show ab_Z m_Mo_yearGoes _ _ _ 25 [_, _] [] _
      exact absurd h1 (lp_in (by omega) hk3)
    · intro h1
      show ab_Z m_Mo_yearGoes _ _ _ 11 [_, _] [] _
      refine ab_go ok_Mo_yearGoes 6 rfl ?_
      show ab_Z m_Mo_yearGoes _ _ _ 17 [_, _] [_, _, _, _, _] _
      refine ab_go ok_Mo_yearGoes 1 rfl ?_
      show ab_Z m_Mo_yearGoes _ _ _ 18 [_, _] [_, _, _, _] _
      refine ab_go ok_Mo_yearGoes 2 rfl ?_
      show ab_Z m_Mo_yearGoes _ _ _ 20 [_, _] [_, _, _, _, _, _] _
      refine ab_go ok_Mo_yearGoes 1 rfl ?_
      show ab_Z m_Mo_yearGoes _ _ _ 21 [_, _] [_, _, _, _, _] _
      rw [dv3 k (by omega), rm3' (by omega)]
      refine ab_cl ok_Mo_yearGoes rfl [_, _, _] [_, _] rfl ⟨_, _, rfl, rfl, Or.inl ⟨_, _, rfl, rfl⟩⟩ (Nat.le_of_ble_eq_true rfl) (t_Mo_growsOf d fm X s1 T t hC2 (show k / 3 < nc by omega) (Nat.mod_lt _ (by decide))) ?_
      rintro _ _ ⟨rfl, s3, rfl, hk4⟩
      show ab_Z m_Mo_yearGoes _ _ _ 22 [_, _] [_, _, _] _
      rw [e5 s1 hk, dm3, show grF PG (s 115 k) (T 16 (k / 3) + s 115 39) (nI (k % 3)) (s 115 39) (nsV (vR T nc nd (s 115)) nd (k / 3)) (nI (k / 3)) = gN k from by rw [hgN]]
      refine ab_is ok_Mo_yearGoes rfl rfl (k := k) (by first | rfl | (simp only [LL1, LL2, LL3, LL4, LL5, LL6, LL7, LL8, LL10, LL15, LL18, LL20, LL21, LL22, LL23, LL24, LL32, LL39, LL40, LL130, LL420, pk_mul, nI_add]; done) | (simp only [LL1, LL2, LL3, LL4, LL5, LL6, LL7, LL8, LL10, LL15, LL18, LL20, LL21, LL22, LL23, LL24, LL32, LL39, LL40, LL130, LL420, pk_mul, nI_add]; congr 1; omega)) (by omega) (Nat.le_of_ble_eq_true rfl) ?_
      show ab_Z m_Mo_yearGoes _ _ _ 23 [_, _] [] _
      refine ab_go ok_Mo_yearGoes 2 rfl ?_
      show ab_Z m_Mo_yearGoes _ _ _ 2 [_, _] [] _
      have ih2 := ih _ (Kr.up (c := 117) (k := k) (v := gN k) rfl (hk.tr hk4.m15)) (fun j hj => by
        by_cases hjk : j = k
        · subst hjk; rw [ab_up_s]
        · rw [ab_up_n hjk, hk4 117 j rfl]; exact q j (by omega))
      rw [nI_succ] at ih2
      exact ih2
theorem LI_rowN (V : Nat → Nat → Int32) (h5 : nc ≤ 5) (h6 : nd ≤ 6) (hI : LI V nc nd) : ∀ n, LI (ab_ro V 11 (rowN V PG PF nc nd n)) nc nd
  | 0 => by rw [rowN, ro_id]; exact hI
  | n + 1 => by
    have := LI_year (PG := PG) (PF := PF) h5 h6 (LI_rowN V h5 h6 hI n)
    rw [ro_ro] at this
    exact this
theorem t_Mo_goes (hC : RC s lv T nc nd nt PT PG PB PF) (hI : LI (vR T nc nd (s 115)) nc nd) {n : Nat} (hn : n < 1000) : ab_T g_Mo_goes (d + 4) (0, 0) [.ref 81, .int (nI n)] (HA fm X s t) (fun v h => v = none ∧ ∃ s', h = HA fm X s' t ∧ Kr w3 s s' ∧ s' 81 52 = s 81 52 ∧ vR T nc nd (s' 115) = ab_ro (vR T nc nd (s 115)) 11 (rowN (vR T nc nd (s 115)) PG PF nc nd n) ∧ ∀ j, Ir nc nd j → s' 115 j = s 115 j) := by
  have hR := hC.1
  have h5 := hR.2.2.1.2
  have h6 := hR.2.2.2.1.2
  generalize hVV : vR T nc nd (s 115) = V at hI ⊢
  refine ab_T_of (M := m_Mo_goes) rfl rfl (Nat.le_of_ble_eq_true rfl) ?_
  show ab_Z m_Mo_goes _ _ _ 0 [_, _, _] [] _
  refine ab_go ok_Mo_goes 2 rfl ?_
  show ab_Z m_Mo_goes _ _ _ 2 [_, _, _] [] _
  refine lp_dn n (fun k => ∀ s1, Kr w3 s s1 → s1 81 52 = s 81 52 → vR T nc nd (s1 115) = ab_ro V 11 (rowN V PG PF nc nd k) → (∀ j, Ir nc nd j → s1 115 j = s 115 j) → ab_Z m_Mo_goes (d + 4) (0, 0) (fun v h => v = none ∧ ∃ s', h = HA fm X s' t ∧ Kr w3 s s' ∧ s' 81 52 = s 81 52 ∧ vR T nc nd (s' 115) = ab_ro V 11 (rowN V PG PF nc nd n) ∧ ∀ j, Ir nc nd j → s' 115 j = s 115 j) 2 [some (.ref 81), some (.int (nI n)), some (.int (nI k))] [] (HA fm X s1 t)) ?_ ?_ s (Kr.rf w3 s) rfl (by rw [hVV, rowN, ro_id]) (fun _ _ => rfl)
  · intro s1 hk hl hv hj
    refine ab_go ok_Mo_goes 2 rfl ?_
    show ab_Z m_Mo_goes _ _ _ 4 [_, _, _] [_, _] _
    refine ab_br ok_Mo_goes rfl rfl ?_ ?_
    · intro h1
      show ab_Z m_Mo_goes _ _ _ 9 [_, _, _] [] _
      exact ab_rV ok_Mo_goes rfl (⟨rfl, s1, rfl, hk, hl, hv, hj⟩)
    · intro h1
      show ab_Z m_Mo_goes _ _ _ 5 [_, _, _] [] _
      exact absurd (lp_out n) h1
  · intro k hkn ih s1 hk hl hv hj
    refine ab_go ok_Mo_goes 2 rfl ?_
    show ab_Z m_Mo_goes _ _ _ 4 [_, _, _] [_, _] _
    refine ab_br ok_Mo_goes rfl rfl ?_ ?_
    · intro h1
      show ab_Z m_Mo_goes _ _ _ 9 [_, _, _] [] _
      exact absurd h1 (lp_in (by omega) hkn)
    · intro h1
      show ab_Z m_Mo_goes _ _ _ 5 [_, _, _] [] _
      refine ab_go ok_Mo_goes 1 rfl ?_
      show ab_Z m_Mo_goes _ _ _ 6 [_, _, _] [_] _
      refine ab_cl ok_Mo_goes rfl [_] [] rfl ⟨_, _, rfl, rfl, Or.inl ⟨_, _, rfl, rfl⟩⟩ (Nat.le_of_ble_eq_true rfl) (t_Mo_yearGoes d fm X s1 T t (hC.k hk.m34) (by rw [hv]; exact LI_rowN V h5 h6 hI k)) ?_
      rintro _ _ ⟨rfl, s2, rfl, hk2, hl2, hv2, hj2⟩
      show ab_Z m_Mo_goes _ _ _ 7 [_, _, _] [] _
      refine ab_go ok_Mo_goes 2 rfl ?_
      show ab_Z m_Mo_goes _ _ _ 2 [_, _, _] [] _
      have ih2 := ih s2 (hk.tr hk2) (hl2.trans hl) (by rw [hv2, hv, ro_ro]; rfl) (fun j h => (hj2 j h).trans (hj j h))
      rw [nI_succ] at ih2
      exact ih2
end

