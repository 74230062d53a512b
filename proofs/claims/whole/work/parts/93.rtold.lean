section
variable (d : Nat) (fm : Value) (X : Nat × (Nat → Int32)) (s : Nat → Nat → Int32) (t : Nat → Nat → Int64)
variable {K P v : Nat → Nat} {nm : Nat → List Nat}
theorem o_tre {sd n : Nat} {x : Tx} (hS : RSt K P v nm sd s t n x) (hK : K n = 258) : ab_Z m_Mo_tellOne (d + 6) (0, 0) (PW K P v nm sd fm X s t (telT K v nm x n)) 146 [some (.ref 81), none, none, none] [] (HA fm X s t) := by
  generalize hPo : PW K P v nm sd fm X s t (telT K v nm x n) = Po
  obtain ⟨hT, hR, hl, hlq, h12, ⟨h19, hs2⟩, hN, hD, hL⟩ := hS
  have hcn : s 97 sd = nI (xNt x) := hD.2.2.1.1
  have hc6 : xNt x ≤ 6 := hD.2.2.1.2.1
  have h1c : xNc x ≤ 5 := hD.1.2.1
  have h1d : xNd x ≤ 6 := hD.2.1.2.1
  have hQ : telT K v nm x n = bnd (if xNt x = 6 then .inr (2, n) else goT n) fun n1 => bnd (trQ K nm x n1 (xLt x)) fun w => .inl (w.1, (x.1, x.2.1, (xNt x + 1, updN (updN (xTr x) (2 * xNt x) w.2.1) (2 * xNt x + 1) w.2.2.1), x.2.2.2.1, x.2.2.2.2.1, w.2.2.2)) := by
    unfold telT telB
    simp only [hK]
    show (bnd (treT K nm x n) _) = _
    unfold treT trQ
    by_cases h6 : xNt x = 6
    · rw [if_pos h6, if_pos h6]; rfl
    · rw [if_neg h6, if_neg h6]
      simp only [bnd_bnd, bnd_l]
  refine ab_go ok_Mo_tellOne 5 rfl ?_
  show ab_Z m_Mo_tellOne _ _ _ 151 [_, _, _, _] [_, _, _] _
  rw [h19]
  refine ab_ia ok_Mo_tellOne rfl rfl (k := sd) (by first | rfl | (simp only [LL1, LL2, LL3, LL4, LL5, LL6, LL7, LL8, LL10, LL15, LL18, LL20, LL21, LL22, LL23, LL24, LL32, LL39, LL40, LL130, LL420, pk_mul, nI_add]; done) | (simp only [LL1, LL2, LL3, LL4, LL5, LL6, LL7, LL8, LL10, LL15, LL18, LL20, LL21, LL22, LL23, LL24, LL32, LL39, LL40, LL130, LL420, pk_mul, nI_add]; congr 1; omega)) (by omega) (Nat.le_of_ble_eq_true rfl) ?_
  show ab_Z m_Mo_tellOne _ _ _ 152 [_, _, _, _] [_, _] _
  rw [hcn]
  refine ab_go ok_Mo_tellOne 1 rfl ?_
  show ab_Z m_Mo_tellOne _ _ _ 153 [_, _, _, _] [_, _, _] _
  refine ab_cl ok_Mo_tellOne rfl [_, _, _] [] rfl ⟨_, _, rfl, rfl, Or.inl ⟨_, _, rfl, rfl⟩⟩ (Nat.le_of_ble_eq_true rfl) (t_Mo_roomFor (d + 3) fm X s t hT hR (by omega) (a := xNt x) (by omega) (m := 6) (by decide) _ rfl) ?_
  rintro _ _ ⟨rfl, s1, rfl, k1, hR1⟩
  show ab_Z m_Mo_tellOne _ _ _ 154 [_, _, _, _] [] _
  refine ab_go ok_Mo_tellOne 2 rfl ?_
  show ab_Z m_Mo_tellOne _ _ _ 156 [_, _, _, _] [_] _
  cases hq1 : (if xNt x = 6 then .inr (2, n) else goT n : Rs Nat) with
  | inr e =>
    rw [hq1] at hR1 hQ
    rw [hR1.1]
    refine ab_br ok_Mo_tellOne rfl rfl ?_ ?_
    · intro h1
      show ab_Z m_Mo_tellOne _ _ _ 157 [_, _, _, _] [] _
      exact absurd h1 (fl_1 hR1.2.2.1).1
    · intro h1
      show ab_Z m_Mo_tellOne _ _ _ 207 [_, _, _, _] [] _
      have fin : Po none (HA fm X s1 t) := by
        rw [← hPo]
        refine ⟨rfl, s1, t, rfl, k1.n.w, fun _ _ => rfl, by rw [hQ]; exact hR1, fun q hq => by rw [hQ] at hq; cases hq⟩
      exact ab_rV ok_Mo_tellOne rfl (fin)
  | inl n1 =>
    rw [hq1] at hR1 hQ
    rw [bnd_l] at hQ
    have h6 : ¬ xNt x = 6 := fun z => by rw [if_pos z] at hq1; cases hq1
    rw [if_neg h6] at hq1
    have hn1 := (go_1 hq1).1
    rw [hR1.2.1]
    refine ab_go ok_Mo_tellOne 1 rfl ?_
    show ab_Z m_Mo_tellOne _ _ _ 157 [_, _, _, _] [] _
    refine ab_go ok_Mo_tellOne 1 rfl ?_
    show ab_Z m_Mo_tellOne _ _ _ 158 [_, _, _, _] [_] _
    refine ab_cl ok_Mo_tellOne rfl [_] [] rfl ⟨_, _, rfl, rfl, Or.inl ⟨_, _, rfl, rfl⟩⟩ (Nat.le_of_ble_eq_true rfl) (t_Mo_tellTreaty (d + 1) fm X s1 t (k1.n.T hT) hR1 ((k1 81 19 (by omega)).trans h19) hs2 (k1.lt hl) (fun z => by have := hlq z; omega) (k1.n.nm hN) (by omega) h1d (q := xNt x) (by rw [k1.br 97 (by decide)]; exact hcn) (by omega)) ?_
    rintro _ _ ⟨rfl, s2, rfl, k2, hR2, ha2⟩
    show ab_Z m_Mo_tellOne _ _ _ 159 [_, _, _, _] [] _
    refine ab_go ok_Mo_tellOne 1 rfl ?_
    show ab_Z m_Mo_tellOne _ _ _ 207 [_, _, _, _] [] _
    have er : ∀ c, c ≠ 81 → c ≠ 97 → c ≠ 98 → c ≠ 99 → s2 c = s c := fun c h1 h2 h3 h4 => funext fun k => by rw [k2 c k (fun z => h1 z.1) (fun z => h2 z.1) (by omega), k1.br c h1]
    have ef : ∀ j, ¬ (j = 11 ∨ j = 13 ∨ j = 14 ∨ j = 15 ∨ j = 16) → s2 81 j = s 81 j := fun j hj => by rw [k2 81 j (fun z => hj z.2) (fun z => absurd z.1 (by decide)) (by omega)]; exact k1 81 j (by omega)
    have fin : Po none (HA fm X s2 t) := by
      rw [← hPo]
      have hmp : mpT Prod.fst (telT K v nm x n) = mpT Prod.fst (trQ K nm x n1 (xLt x)) := by
        rw [hQ]
        cases trQ K nm x n1 (xLt x) <;> rfl
      have hR3 : RdM s2 K P (mpT Prod.fst (telT K v nm x n)) := by rw [hmp]; exact hR2
      refine ⟨rfl, s2, t, rfl, fun c k hc => ?_, fun _ _ => rfl, hR3, fun q hq => ?_⟩
      · rw [k2 c k (fun z => hc (wm0 ⟨z.1, by omega⟩)) (fun z => hc (wm3 ⟨by omega, z.2⟩)) (fun z => hc (wm8 ⟨z.1, by omega, by omega⟩))]
        exact k1 c k (fun z => hc (wm0 ⟨z.1, by omega⟩))
      · rw [hq] at hR3
        rw [hQ] at hq
        obtain ⟨w, hw, hw2⟩ := bnd_in hq
        obtain ⟨a1, a2, a3, a4, a5⟩ := ha2 w hw
        have hnw : n ≤ w.1 := by
          unfold trQ at hw
          obtain ⟨z1, z2, z3⟩ := bnd_in hw
          obtain ⟨z4, z5, z6⟩ := bnd_in z3
          obtain ⟨z7, z8, z9⟩ := bnd_in z6
          have c1 : n1 < z1.1 := by unfold dnT at z2; obtain ⟨y1, y2, y3⟩ := bnd_in z2; cases y3; exact eat_up y2
          have c2 : z1.1 < z4.1 := by unfold dnT at z5; obtain ⟨y1, y2, y3⟩ := bnd_in z5; cases y3; exact eat_up y2
          have c3 := eat_up z8
          cases z9
          show n ≤ z7
          omega
        cases hw2
        refine ⟨hT.of (er 84 (by decide) (by decide) (by decide) (by decide)) (er 85 (by decide) (by decide) (by decide) (by decide)) (er 86 (by decide) (by decide) (by decide) (by decide)) rfl, hR3, a4, a5, (ef 12 (by omega)).trans h12, ⟨(ef 19 (by omega)).trans h19, hs2⟩, ?_, ?_, ?_⟩
        · obtain ⟨L, v1, v2, v3, v4⟩ := hN
          exact ⟨L, (ef 20 (by omega)).trans v1, v2, v3.of (er 90 (by decide) (by decide) (by decide) (by decide)) rfl, v4⟩
        · refine ⟨hD.1.of (by rw [er 91 (by decide) (by decide) (by decide) (by decide)]) (er 92 (by decide) (by decide) (by decide) (by decide)) (er 93 (by decide) (by decide) (by decide) (by decide)), hD.2.1.of (by rw [er 94 (by decide) (by decide) (by decide) (by decide)]) (er 95 (by decide) (by decide) (by decide) (by decide)) (er 96 (by decide) (by decide) (by decide) (by decide)), ⟨a1, show xNt x + 1 ≤ 6 by omega, fun k hk => ?_⟩, ⟨by rw [er 100 (by decide) (by decide) (by decide) (by decide)]; exact hD.2.2.2.1, by rw [er 101 (by decide) (by decide) (by decide) (by decide)]; exact hD.2.2.2.2⟩⟩
          have hk' : k < xNt x + 1 := hk
          show s2 98 (6 * sd + k) = updN (updN (xTr x) (2 * xNt x) w.2.1) (2 * xNt x + 1) w.2.2.1 (2 * k) ∧ s2 99 (6 * sd + k) = updN (updN (xTr x) (2 * xNt x) w.2.1) (2 * xNt x + 1) w.2.2.1 (2 * k + 1)
          unfold updN
          by_cases hkn : k = xNt x
          · subst hkn
            rw [if_neg (by omega), if_pos rfl, if_pos rfl]
            exact ⟨a2, a3⟩
          · obtain ⟨g1, g2⟩ := hD.2.2.1.2.2 k (show k < xNt x by omega)
            rw [if_neg (by omega), if_neg (by omega), if_neg (by omega), if_neg (by omega), k2 98 _ (by omega) (by omega) (by omega), k2 99 _ (by omega) (by omega) (by omega), k1.br 98 (by decide), k1.br 99 (by decide)]
            exact ⟨g1, g2⟩
        · exact hL.of (ef 42 (by omega)) (ef 36 (by omega)) (fun c h1 h2 => er c (by omega) (by omega) (by omega) (by omega)) hnw
    exact ab_rV ok_Mo_tellOne rfl (fin)
theorem o_slp {sd n : Nat} {x : Tx} (hS : RSt K P v nm sd s t n x) (hK : K n = 263) : ab_Z m_Mo_tellOne (d + 6) (0, 0) (PW K P v nm sd fm X s t (telT K v nm x n)) 160 [some (.ref 81), none, none, none] [] (HA fm X s t) := by
  generalize hPo : PW K P v nm sd fm X s t (telT K v nm x n) = Po
  obtain ⟨hT, hR, hl, hlq, h12, ⟨h19, hs2⟩, hN, hD, hL⟩ := hS
  have hQ : telT K v nm x n = bnd (bnd (goT n) fun t1 => intT K v 100 t1 (xLt x)) fun a => bnd (eatT K 59 a.1) fun m => .inl (m, (x.1, x.2.1, x.2.2.1, (a.2.1, xSd x), x.2.2.2.2.1, a.2.2)) := by
    unfold telT telB
    simp only [hK]
    show (bnd (slT' K v x n) _) = _
    unfold slT'
    simp only [bnd_bnd, bnd_l]
  refine ab_go ok_Mo_tellOne 6 rfl ?_
  show ab_Z m_Mo_tellOne _ _ _ 166 [_, _, _, _] [_, _, _, _] _
  rw [h19]
  refine ab_cl ok_Mo_tellOne rfl [_, _] [_, _] rfl ⟨_, _, rfl, rfl, Or.inl ⟨_, _, rfl, rfl⟩⟩ (Nat.le_of_ble_eq_true rfl) (t_Mo_toldInt (d + 2) fm X s t hT hR (by omega) hl hlq (m := 100) (by decide) _ rfl) ?_
  rintro _ _ ⟨y, s1, rfl, rfl, k1, hR1, hy⟩
  show ab_Z m_Mo_tellOne _ _ _ 167 [_, _, _, _] [_, _, _] _
  refine ab_is ok_Mo_tellOne rfl rfl (k := sd) (by first | rfl | (simp only [LL1, LL2, LL3, LL4, LL5, LL6, LL7, LL8, LL10, LL15, LL18, LL20, LL21, LL22, LL23, LL24, LL32, LL39, LL40, LL130, LL420, pk_mul, nI_add]; done) | (simp only [LL1, LL2, LL3, LL4, LL5, LL6, LL7, LL8, LL10, LL15, LL18, LL20, LL21, LL22, LL23, LL24, LL32, LL39, LL40, LL130, LL420, pk_mul, nI_add]; congr 1; omega)) (by omega) (Nat.le_of_ble_eq_true rfl) ?_
  show ab_Z m_Mo_tellOne _ _ _ 168 [_, _, _, _] [] _
  refine ab_go ok_Mo_tellOne 1 rfl ?_
  show ab_Z m_Mo_tellOne _ _ _ 207 [_, _, _, _] [] _
  have fin : Po none (HA fm X (ab_up s1 100 sd y) t) := by
    rw [← hPo]
    have e1 : ∀ c, c ≠ 100 → ab_up s1 100 sd y c = s1 c := fun c hc => ab_up_o hc
    have er : ∀ c, c ≠ 100 → c ≠ 81 → ab_up s1 100 sd y c = s c := fun c hc h8 => by rw [ab_up_o hc, k1.row h8]
    have ef : ∀ j, ¬ (j = 11 ∨ j = 13 ∨ j = 14 ∨ j = 15 ∨ j = 16) → ab_up s1 100 sd y 81 j = s 81 j := fun j hj => by rw [ab_up_o (by decide)]; exact k1 81 j (fun z => hj z.2)
    have hR2 : RdM (ab_up s1 100 sd y) K P (mpT Prod.fst (telT K v nm x n)) := by
      have e : mpT Prod.fst (telT K v nm x n) = bnd (mpT Prod.fst (bnd (goT n) fun t1 => intT K v 100 t1 (xLt x))) (eatT K 59) := by
        rw [hQ]
        cases (bnd (goT n) fun t1 => intT K v 100 t1 (xLt x)) with
        | inr e => rfl
        | inl a =>
          show mpT Prod.fst (bnd (eatT K 59 a.1) _) = eatT K 59 a.1
          cases eatT K 59 a.1 <;> rfl
      rw [e]
      exact hR1.of (by rw [e1 81 (by decide)]) (by rw [e1 81 (by decide)]) (by rw [e1 81 (by decide)])
    refine ⟨rfl, _, t, rfl, KW.u (wm3 ⟨by decide, rfl⟩) k1.w, fun _ _ => rfl, hR2, fun q hq => ?_⟩
    rw [hq] at hR2
    rw [hQ] at hq
    obtain ⟨a, ha, hb⟩ := bnd_in hq
    obtain ⟨m, hm, hm2⟩ := bnd_in hb
    cases hm2
    obtain ⟨y1, y2, y3⟩ := hy a ha
    have hmu := eat_up hm
    have hna : n ≤ a.1 := by
      obtain ⟨g1, g2, g3⟩ := bnd_in ha
      have := (go_1 g2).1
      unfold intT at g3
      obtain ⟨g4, g5, g6⟩ := bnd_in g3
      have := eat_up g5
      cases g6
      show n ≤ g4
      omega
    refine ⟨hT.of (er 84 (by decide) (by decide)) (er 85 (by decide) (by decide)) (er 86 (by decide) (by decide)) rfl, hR2, y2.of (by rw [e1 81 (by decide)]) (by rw [e1 81 (by decide)]), fun z => by have := y3 z; show a.2.2.2 < m; omega, (ef 12 (by omega)).trans h12, ⟨(ef 19 (by omega)).trans h19, hs2⟩, ?_, ?_, ?_⟩
    · obtain ⟨L, v1, v2, v3, v4⟩ := hN
      exact ⟨L, (ef 20 (by omega)).trans v1, v2, v3.of (er 90 (by decide) (by decide)) rfl, v4⟩
    · exact ⟨hD.1.of (by rw [er 91 (by decide) (by decide)]) (er 92 (by decide) (by decide)) (er 93 (by decide) (by decide)), hD.2.1.of (by rw [er 94 (by decide) (by decide)]) (er 95 (by decide) (by decide)) (er 96 (by decide) (by decide)), hD.2.2.1.of (by rw [er 97 (by decide) (by decide)]) (er 98 (by decide) (by decide)) (er 99 (by decide) (by decide)), ⟨(ab_up_s ..).trans y1, by rw [er 101 (by decide) (by decide)]; exact hD.2.2.2.2⟩⟩
    · exact hL.of (ef 42 (by omega)) (ef 36 (by omega)) (fun c h1 h2 => er c (by omega) (by omega)) (show n ≤ m by omega)
  exact ab_rV ok_Mo_tellOne rfl (fin)
theorem o_sed {sd n : Nat} {x : Tx} (hS : RSt K P v nm sd s t n x) (hK : K n = 264) : ab_Z m_Mo_tellOne (d + 6) (0, 0) (PW K P v nm sd fm X s t (telT K v nm x n)) 169 [some (.ref 81), none, none, none] [] (HA fm X s t) := by
  generalize hPo : PW K P v nm sd fm X s t (telT K v nm x n) = Po
  obtain ⟨hT, hR, hl, hlq, h12, ⟨h19, hs2⟩, hN, hD, hL⟩ := hS
  have hQ : telT K v nm x n = bnd (bnd (goT n) fun t1 => intT K v 9999 t1 (xLt x)) fun a => bnd (eatT K 59 a.1) fun m => .inl (m, (x.1, x.2.1, x.2.2.1, (xSl x, a.2.1), x.2.2.2.2.1, a.2.2)) := by
    unfold telT telB
    simp only [hK]
    show (bnd (sdT K v x n) _) = _
    unfold sdT
    simp only [bnd_bnd, bnd_l]
  refine ab_go ok_Mo_tellOne 6 rfl ?_
  show ab_Z m_Mo_tellOne _ _ _ 175 [_, _, _, _] [_, _, _, _] _
  rw [h19]
  refine ab_cl ok_Mo_tellOne rfl [_, _] [_, _] rfl ⟨_, _, rfl, rfl, Or.inl ⟨_, _, rfl, rfl⟩⟩ (Nat.le_of_ble_eq_true rfl) (t_Mo_toldInt (d + 2) fm X s t hT hR (by omega) hl hlq (m := 9999) (by decide) _ rfl) ?_
  rintro _ _ ⟨y, s1, rfl, rfl, k1, hR1, hy⟩
  show ab_Z m_Mo_tellOne _ _ _ 176 [_, _, _, _] [_, _, _] _
  refine ab_is ok_Mo_tellOne rfl rfl (k := sd) (by first | rfl | (simp only [LL1, LL2, LL3, LL4, LL5, LL6, LL7, LL8, LL10, LL15, LL18, LL20, LL21, LL22, LL23, LL24, LL32, LL39, LL40, LL130, LL420, pk_mul, nI_add]; done) | (simp only [LL1, LL2, LL3, LL4, LL5, LL6, LL7, LL8, LL10, LL15, LL18, LL20, LL21, LL22, LL23, LL24, LL32, LL39, LL40, LL130, LL420, pk_mul, nI_add]; congr 1; omega)) (by omega) (Nat.le_of_ble_eq_true rfl) ?_
  show ab_Z m_Mo_tellOne _ _ _ 177 [_, _, _, _] [] _
  refine ab_go ok_Mo_tellOne 1 rfl ?_
  show ab_Z m_Mo_tellOne _ _ _ 207 [_, _, _, _] [] _
  have fin : Po none (HA fm X (ab_up s1 101 sd y) t) := by
    rw [← hPo]
    have e1 : ∀ c, c ≠ 101 → ab_up s1 101 sd y c = s1 c := fun c hc => ab_up_o hc
    have er : ∀ c, c ≠ 101 → c ≠ 81 → ab_up s1 101 sd y c = s c := fun c hc h8 => by rw [ab_up_o hc, k1.row h8]
    have ef : ∀ j, ¬ (j = 11 ∨ j = 13 ∨ j = 14 ∨ j = 15 ∨ j = 16) → ab_up s1 101 sd y 81 j = s 81 j := fun j hj => by rw [ab_up_o (by decide)]; exact k1 81 j (fun z => hj z.2)
    have hR2 : RdM (ab_up s1 101 sd y) K P (mpT Prod.fst (telT K v nm x n)) := by
      have e : mpT Prod.fst (telT K v nm x n) = bnd (mpT Prod.fst (bnd (goT n) fun t1 => intT K v 9999 t1 (xLt x))) (eatT K 59) := by
        rw [hQ]
        cases (bnd (goT n) fun t1 => intT K v 9999 t1 (xLt x)) with
        | inr e => rfl
        | inl a =>
          show mpT Prod.fst (bnd (eatT K 59 a.1) _) = eatT K 59 a.1
          cases eatT K 59 a.1 <;> rfl
      rw [e]
      exact hR1.of (by rw [e1 81 (by decide)]) (by rw [e1 81 (by decide)]) (by rw [e1 81 (by decide)])
    refine ⟨rfl, _, t, rfl, KW.u (wm3 ⟨by decide, rfl⟩) k1.w, fun _ _ => rfl, hR2, fun q hq => ?_⟩
    rw [hq] at hR2
    rw [hQ] at hq
    obtain ⟨a, ha, hb⟩ := bnd_in hq
    obtain ⟨m, hm, hm2⟩ := bnd_in hb
    cases hm2
    obtain ⟨y1, y2, y3⟩ := hy a ha
    have hmu := eat_up hm
    have hna : n ≤ a.1 := by
      obtain ⟨g1, g2, g3⟩ := bnd_in ha
      have := (go_1 g2).1
      unfold intT at g3
      obtain ⟨g4, g5, g6⟩ := bnd_in g3
      have := eat_up g5
      cases g6
      show n ≤ g4
      omega
    refine ⟨hT.of (er 84 (by decide) (by decide)) (er 85 (by decide) (by decide)) (er 86 (by decide) (by decide)) rfl, hR2, y2.of (by rw [e1 81 (by decide)]) (by rw [e1 81 (by decide)]), fun z => by have := y3 z; show a.2.2.2 < m; omega, (ef 12 (by omega)).trans h12, ⟨(ef 19 (by omega)).trans h19, hs2⟩, ?_, ?_, ?_⟩
    · obtain ⟨L, v1, v2, v3, v4⟩ := hN
      exact ⟨L, (ef 20 (by omega)).trans v1, v2, v3.of (er 90 (by decide) (by decide)) rfl, v4⟩
    · exact ⟨hD.1.of (by rw [er 91 (by decide) (by decide)]) (er 92 (by decide) (by decide)) (er 93 (by decide) (by decide)), hD.2.1.of (by rw [er 94 (by decide) (by decide)]) (er 95 (by decide) (by decide)) (er 96 (by decide) (by decide)), hD.2.2.1.of (by rw [er 97 (by decide) (by decide)]) (er 98 (by decide) (by decide)) (er 99 (by decide) (by decide)), ⟨by rw [er 100 (by decide) (by decide)]; exact hD.2.2.2.1, (ab_up_s ..).trans y1⟩⟩
    · exact hL.of (ef 42 (by omega)) (ef 36 (by omega)) (fun c h1 h2 => er c (by omega) (by omega)) (show n ≤ m by omega)
  exact ab_rV ok_Mo_tellOne rfl (fin)
end

