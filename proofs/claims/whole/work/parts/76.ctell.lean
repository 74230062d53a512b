section
variable (d : Nat) (fm : Value) (X : Nat × (Nat → Int32)) (s : Nat → Nat → Int32) (t : Nat → Nat → Int64)
variable {K P v : Nat → Nat} {nm : Nat → List Nat}
theorem kw_9 (k : Nat) : (k = 256 ∨ k = 257 ∨ k = 258 ∨ k = 259 ∨ k = 260 ∨ k = 261 ∨ k = 262 ∨ k = 263 ∨ k = 264) ∨ (k < 256 ∨ 265 ≤ k) := by omega
theorem t_Re_parseTell (hT : TC s t K P v nm) {n0 : Nat} (hR : Rd s K (.inl n0)) {x : Tx} (hD : DrC s t x) (hl : Lt s (xLt x)) : ab_T g_Re_parseTell (d + 24) (0, 0) [.ref 8, .ref 57] (HA fm X s t) (PTl fm X s t K (telT K v nm x n0)) := by
  generalize hPo : PTl fm X s t K (telT K v nm x n0) = Po
  have hKn := hT.2.1 n0
  have tail : ∀ s1 t1, KR s s1 → KRt t t1 → (∃ l', Lt s1 l') ∨ False → Rd s1 K (mpT Prod.fst (telB K v nm x n0)) → (∀ a, telB K v nm x n0 = .inl a → DrC s1 t1 a.2 ∧ Lt s1 (xLt a.2)) → ab_Z m_Re_parseTell (d + 24) (0, 0) Po 58 [some (.ref 8), some (.ref 57)] [] (HA fm X s1 t1) := by
    intro s1 t1 k1 k2 hl1 hR1 hq
    obtain ⟨l1, hl1⟩ := hl1.elim id False.elim
    refine ab_go ok_Re_parseTell 2 rfl ?_
    show ab_Z m_Re_parseTell _ _ _ 60 [_, _] [_, _] _
    refine ab_cl ok_Re_parseTell rfl [_, _] [] rfl ⟨_, _, rfl, rfl, Or.inl ⟨_, _, rfl, rfl⟩⟩ (Nat.le_of_ble_eq_true rfl) (t_Re_accept (d + 23) fm X s1 t1 (hT.k k1 k2) hR1 (w := 59) (by decide) (by decide) _ rfl) ?_
    rintro _ _ ⟨rfl, s2, rfl, k3, hR2⟩
    show ab_Z m_Re_parseTell _ _ _ 61 [_, _] [_] _
    refine ab_go ok_Re_parseTell 1 rfl ?_
    show ab_Z m_Re_parseTell _ _ _ 62 [_, _] [] _
    have fin : Po none (HA fm X s2 t1) := by
      rw [← hPo]
      refine ⟨rfl, s2, t1, rfl, k1.tr k3.l.r, k2, ?_, ⟨l1, k3.lt hl1⟩, fun a ha => ?_⟩
      · have e1 : mpT Prod.fst (telT K v nm x n0) = bnd (mpT Prod.fst (telB K v nm x n0)) (eatT K 59) := by
          unfold telT
          cases telB K v nm x n0 with
          | inr e => rfl
          | inl q =>
            simp only [bnd_l]
            cases eatT K 59 q.1 <;> rfl
        rw [e1]
        exact hR2
      · obtain ⟨q, b1, b2⟩ := bnd_in ha
        obtain ⟨n1, b3, b4⟩ := bnd_in b2
        cases b4
        obtain ⟨c1, c2⟩ := hq q b1
        exact ⟨c1.l k3.l, k3.lt c2⟩
    exact ab_rV ok_Re_parseTell rfl (fin)
  refine ab_T_of (M := m_Re_parseTell) rfl rfl (Nat.le_of_ble_eq_true rfl) ?_
  show ab_Z m_Re_parseTell _ _ _ 0 [_, _] [] _
  refine ab_go ok_Re_parseTell 2 rfl ?_
  show ab_Z m_Re_parseTell _ _ _ 2 [_, _] [_] _
  rw [hR.2.1]
  rcases kw_9 (K n0) with (h0 | h0 | h0 | h0 | h0 | h0 | h0 | h0 | h0) | h0
  · have hB : telB K v nm x n0 = clkT K v nm x n0 := by
      unfold telB
      rw [h0]
      rfl
    rw [h0, show nI 256 = 256 from rfl]
    refine ab_go ok_Re_parseTell 1 rfl ?_
    rw [show ab_tgt 256 [3, 7, 11, 15, 20, 25, 30, 35, 45] 55 256 = 3 from by decide]
    show ab_Z m_Re_parseTell _ _ _ 3 [_, _] [] _
    refine ab_go ok_Re_parseTell 2 rfl ?_
    show ab_Z m_Re_parseTell _ _ _ 5 [_, _] [_, _] _
    refine ab_cl ok_Re_parseTell rfl [_, _] [] rfl ⟨_, _, rfl, rfl, Or.inl ⟨_, _, rfl, rfl⟩⟩ (Nat.le_of_ble_eq_true rfl) (t_Re_parseClerk (d + 20) fm X s t hT hR h0 hD hl) ?_
    rintro _ _ ⟨rfl, s1, t1, rfl, k1, k2, hR1, hl1, hq1⟩
    show ab_Z m_Re_parseTell _ _ _ 6 [_, _] [] _
    refine ab_go ok_Re_parseTell 1 rfl ?_
    show ab_Z m_Re_parseTell _ _ _ 58 [_, _] [] _
    refine tail s1 t1 k1 k2 (.inl hl1) (by rw [hB]; exact hR1) (fun a ha => hq1 a (by rw [← hB]; exact ha))
  · have hB : telB K v nm x n0 = dedT K v nm x n0 := by
      unfold telB
      rw [h0]
      rfl
    rw [h0, show nI 257 = 257 from rfl]
    refine ab_go ok_Re_parseTell 1 rfl ?_
    rw [show ab_tgt 256 [3, 7, 11, 15, 20, 25, 30, 35, 45] 55 257 = 7 from by decide]
    show ab_Z m_Re_parseTell _ _ _ 7 [_, _] [] _
    refine ab_go ok_Re_parseTell 2 rfl ?_
    show ab_Z m_Re_parseTell _ _ _ 9 [_, _] [_, _] _
    refine ab_cl ok_Re_parseTell rfl [_, _] [] rfl ⟨_, _, rfl, rfl, Or.inl ⟨_, _, rfl, rfl⟩⟩ (Nat.le_of_ble_eq_true rfl) (t_Re_parseDeed (d + 20) fm X s t hT hR h0 hD hl) ?_
    rintro _ _ ⟨rfl, s1, t1, rfl, k1, k2, hR1, hl1, hq1⟩
    show ab_Z m_Re_parseTell _ _ _ 10 [_, _] [] _
    refine ab_go ok_Re_parseTell 1 rfl ?_
    show ab_Z m_Re_parseTell _ _ _ 58 [_, _] [] _
    refine tail s1 t1 k1 k2 (.inl hl1) (by rw [hB]; exact hR1) (fun a ha => hq1 a (by rw [← hB]; exact ha))
  · have hB : telB K v nm x n0 = treT K nm x n0 := by
      unfold telB
      rw [h0]
      rfl
    rw [h0, show nI 258 = 258 from rfl]
    refine ab_go ok_Re_parseTell 1 rfl ?_
    rw [show ab_tgt 256 [3, 7, 11, 15, 20, 25, 30, 35, 45] 55 258 = 11 from by decide]
    show ab_Z m_Re_parseTell _ _ _ 11 [_, _] [] _
    refine ab_go ok_Re_parseTell 2 rfl ?_
    show ab_Z m_Re_parseTell _ _ _ 13 [_, _] [_, _] _
    refine ab_cl ok_Re_parseTell rfl [_, _] [] rfl ⟨_, _, rfl, rfl, Or.inl ⟨_, _, rfl, rfl⟩⟩ (Nat.le_of_ble_eq_true rfl) (t_Re_parseTreaty (d + 20) fm X s t hT hR h0 hD hl) ?_
    rintro _ _ ⟨rfl, s1, t1, rfl, k1, k2, hR1, hl1, hq1⟩
    show ab_Z m_Re_parseTell _ _ _ 14 [_, _] [] _
    refine ab_go ok_Re_parseTell 1 rfl ?_
    show ab_Z m_Re_parseTell _ _ _ 58 [_, _] [] _
    refine tail s1 t1 k1 k2 (.inl hl1) (by rw [hB]; exact hR1) (fun a ha => hq1 a (by rw [← hB]; exact ha))
  · have hB : telB K v nm x n0 = lwT K v x 0 n0 := by
      unfold telB
      rw [h0]
      rfl
    rw [h0, show nI 259 = 259 from rfl]
    refine ab_go ok_Re_parseTell 1 rfl ?_
    rw [show ab_tgt 256 [3, 7, 11, 15, 20, 25, 30, 35, 45] 55 259 = 15 from by decide]
    show ab_Z m_Re_parseTell _ _ _ 15 [_, _] [] _
    refine ab_go ok_Re_parseTell 3 rfl ?_
    show ab_Z m_Re_parseTell _ _ _ 18 [_, _] [_, _] _
    refine ab_cl ok_Re_parseTell rfl [_, _] [] rfl ⟨_, _, rfl, rfl, Or.inl ⟨_, _, rfl, rfl⟩⟩ (Nat.le_of_ble_eq_true rfl) (t_Re_parseLaw_65 d fm X s t hT hR h0) ?_
    rintro _ _ ⟨rfl, s1, rfl, k1, hR1, hq1⟩
    show ab_Z m_Re_parseTell _ _ _ 19 [_, _] [] _
    refine ab_go ok_Re_parseTell 1 rfl ?_
    show ab_Z m_Re_parseTell _ _ _ 58 [_, _] [] _
    refine tail s1 t (k1.r (by decide)) (KRt.rf t) (.inl ⟨xLt x, hl.of (k1 8 4 (by omega) (by omega) (by omega) (by omega)) (k1 8 5 (by omega) (by omega) (by omega) (by omega))⟩) ?_ (fun a ha => ?_)
    · rw [hB]
      have e1 : mpT Prod.fst (lwT K v x 0 n0) = mpT Prod.fst (lawT K v n0) := by
        unfold lwT
        cases lawT K v n0 <;> rfl
      rw [e1]
      exact hR1
    · rw [hB] at ha
      obtain ⟨q, hq, hq2⟩ := bnd_in ha
      cases hq2
      refine ⟨⟨hD.1.of (k1 57 11 (by omega) (by omega) (by omega) (by omega)) (funext fun k => k1 59 k (by omega) (by omega) (by omega) (by omega)) (funext fun k => k1 60 k (by omega) (by omega) (by omega) (by omega)) rfl, hD.2.1.of (k1 57 12 (by omega) (by omega) (by omega) (by omega)) (funext fun k => k1 62 k (by omega) (by omega) (by omega) (by omega)) (funext fun k => k1 63 k (by omega) (by omega) (by omega) (by omega)) rfl, hD.2.2.1.of (k1 57 13 (by omega) (by omega) (by omega) (by omega)) (funext fun k => k1 64 k (by omega) (by omega) (by omega) (by omega)), hD.2.2.2.1.of (k1 57 14 (by omega) (by omega) (by omega) (by omega)) (k1 57 15 (by omega) (by omega) (by omega) (by omega)), (by show CLaw s1 65 (updN (xLw x) 0 q.2 0); rw [show updN (xLw x) 0 q.2 0 = q.2 from if_pos rfl]; exact hq1 q hq), (by show CLaw s1 69 (updN (xLw x) 0 q.2 1); rw [show updN (xLw x) 0 q.2 1 = xLw x 1 from if_neg (by decide)]; exact hD.2.2.2.2.2.1.of (k1 69 4 (by omega) (by omega) (by omega) (by omega)) (funext fun k => k1 70 k (by omega) (by omega) (by omega) (by omega)) (funext fun k => k1 71 k (by omega) (by omega) (by omega) (by omega))), (by show CLaw s1 73 (updN (xLw x) 0 q.2 2); rw [show updN (xLw x) 0 q.2 2 = xLw x 2 from if_neg (by decide)]; exact hD.2.2.2.2.2.2.1.of (k1 73 4 (by omega) (by omega) (by omega) (by omega)) (funext fun k => k1 74 k (by omega) (by omega) (by omega) (by omega)) (funext fun k => k1 75 k (by omega) (by omega) (by omega) (by omega))), (by show CLaw s1 77 (updN (xLw x) 0 q.2 3); rw [show updN (xLw x) 0 q.2 3 = xLw x 3 from if_neg (by decide)]; exact hD.2.2.2.2.2.2.2.of (k1 77 4 (by omega) (by omega) (by omega) (by omega)) (funext fun k => k1 78 k (by omega) (by omega) (by omega) (by omega)) (funext fun k => k1 79 k (by omega) (by omega) (by omega) (by omega)))⟩, hl.of (k1 8 4 (by omega) (by omega) (by omega) (by omega)) (k1 8 5 (by omega) (by omega) (by omega) (by omega))⟩
  · have hB : telB K v nm x n0 = lwT K v x 1 n0 := by
      unfold telB
      rw [h0]
      rfl
    rw [h0, show nI 260 = 260 from rfl]
    refine ab_go ok_Re_parseTell 1 rfl ?_
    rw [show ab_tgt 256 [3, 7, 11, 15, 20, 25, 30, 35, 45] 55 260 = 20 from by decide]
    show ab_Z m_Re_parseTell _ _ _ 20 [_, _] [] _
    refine ab_go ok_Re_parseTell 3 rfl ?_
    show ab_Z m_Re_parseTell _ _ _ 23 [_, _] [_, _] _
    refine ab_cl ok_Re_parseTell rfl [_, _] [] rfl ⟨_, _, rfl, rfl, Or.inl ⟨_, _, rfl, rfl⟩⟩ (Nat.le_of_ble_eq_true rfl) (t_Re_parseLaw_69 d fm X s t hT hR h0) ?_
    rintro _ _ ⟨rfl, s1, rfl, k1, hR1, hq1⟩
    show ab_Z m_Re_parseTell _ _ _ 24 [_, _] [] _
    refine ab_go ok_Re_parseTell 1 rfl ?_
    show ab_Z m_Re_parseTell _ _ _ 58 [_, _] [] _
    refine tail s1 t (k1.r (by decide)) (KRt.rf t) (.inl ⟨xLt x, hl.of (k1 8 4 (by omega) (by omega) (by omega) (by omega)) (k1 8 5 (by omega) (by omega) (by omega) (by omega))⟩) ?_ (fun a ha => ?_)
    · rw [hB]
      have e1 : mpT Prod.fst (lwT K v x 1 n0) = mpT Prod.fst (lawT K v n0) := by
        unfold lwT
        cases lawT K v n0 <;> rfl
      rw [e1]
      exact hR1
    · rw [hB] at ha
      obtain ⟨q, hq, hq2⟩ := bnd_in ha
      cases hq2
      refine ⟨⟨hD.1.of (k1 57 11 (by omega) (by omega) (by omega) (by omega)) (funext fun k => k1 59 k (by omega) (by omega) (by omega) (by omega)) (funext fun k => k1 60 k (by omega) (by omega) (by omega) (by omega)) rfl, hD.2.1.of (k1 57 12 (by omega) (by omega) (by omega) (by omega)) (funext fun k => k1 62 k (by omega) (by omega) (by omega) (by omega)) (funext fun k => k1 63 k (by omega) (by omega) (by omega) (by omega)) rfl, hD.2.2.1.of (k1 57 13 (by omega) (by omega) (by omega) (by omega)) (funext fun k => k1 64 k (by omega) (by omega) (by omega) (by omega)), hD.2.2.2.1.of (k1 57 14 (by omega) (by omega) (by omega) (by omega)) (k1 57 15 (by omega) (by omega) (by omega) (by omega)), (by show CLaw s1 65 (updN (xLw x) 1 q.2 0); rw [show updN (xLw x) 1 q.2 0 = xLw x 0 from if_neg (by decide)]; exact hD.2.2.2.2.1.of (k1 65 4 (by omega) (by omega) (by omega) (by omega)) (funext fun k => k1 66 k (by omega) (by omega) (by omega) (by omega)) (funext fun k => k1 67 k (by omega) (by omega) (by omega) (by omega))), (by show CLaw s1 69 (updN (xLw x) 1 q.2 1); rw [show updN (xLw x) 1 q.2 1 = q.2 from if_pos rfl]; exact hq1 q hq), (by show CLaw s1 73 (updN (xLw x) 1 q.2 2); rw [show updN (xLw x) 1 q.2 2 = xLw x 2 from if_neg (by decide)]; exact hD.2.2.2.2.2.2.1.of (k1 73 4 (by omega) (by omega) (by omega) (by omega)) (funext fun k => k1 74 k (by omega) (by omega) (by omega) (by omega)) (funext fun k => k1 75 k (by omega) (by omega) (by omega) (by omega))), (by show CLaw s1 77 (updN (xLw x) 1 q.2 3); rw [show updN (xLw x) 1 q.2 3 = xLw x 3 from if_neg (by decide)]; exact hD.2.2.2.2.2.2.2.of (k1 77 4 (by omega) (by omega) (by omega) (by omega)) (funext fun k => k1 78 k (by omega) (by omega) (by omega) (by omega)) (funext fun k => k1 79 k (by omega) (by omega) (by omega) (by omega)))⟩, hl.of (k1 8 4 (by omega) (by omega) (by omega) (by omega)) (k1 8 5 (by omega) (by omega) (by omega) (by omega))⟩
  · have hB : telB K v nm x n0 = lwT K v x 2 n0 := by
      unfold telB
      rw [h0]
      rfl
    rw [h0, show nI 261 = 261 from rfl]
    refine ab_go ok_Re_parseTell 1 rfl ?_
    rw [show ab_tgt 256 [3, 7, 11, 15, 20, 25, 30, 35, 45] 55 261 = 25 from by decide]
    show ab_Z m_Re_parseTell _ _ _ 25 [_, _] [] _
    refine ab_go ok_Re_parseTell 3 rfl ?_
    show ab_Z m_Re_parseTell _ _ _ 28 [_, _] [_, _] _
    refine ab_cl ok_Re_parseTell rfl [_, _] [] rfl ⟨_, _, rfl, rfl, Or.inl ⟨_, _, rfl, rfl⟩⟩ (Nat.le_of_ble_eq_true rfl) (t_Re_parseLaw_73 d fm X s t hT hR h0) ?_
    rintro _ _ ⟨rfl, s1, rfl, k1, hR1, hq1⟩
    show ab_Z m_Re_parseTell _ _ _ 29 [_, _] [] _
    refine ab_go ok_Re_parseTell 1 rfl ?_
    show ab_Z m_Re_parseTell _ _ _ 58 [_, _] [] _
    refine tail s1 t (k1.r (by decide)) (KRt.rf t) (.inl ⟨xLt x, hl.of (k1 8 4 (by omega) (by omega) (by omega) (by omega)) (k1 8 5 (by omega) (by omega) (by omega) (by omega))⟩) ?_ (fun a ha => ?_)
    · rw [hB]
      have e1 : mpT Prod.fst (lwT K v x 2 n0) = mpT Prod.fst (lawT K v n0) := by
        unfold lwT
        cases lawT K v n0 <;> rfl
      rw [e1]
      exact hR1
    · rw [hB] at ha
      obtain ⟨q, hq, hq2⟩ := bnd_in ha
      cases hq2
      refine ⟨⟨hD.1.of (k1 57 11 (by omega) (by omega) (by omega) (by omega)) (funext fun k => k1 59 k (by omega) (by omega) (by omega) (by omega)) (funext fun k => k1 60 k (by omega) (by omega) (by omega) (by omega)) rfl, hD.2.1.of (k1 57 12 (by omega) (by omega) (by omega) (by omega)) (funext fun k => k1 62 k (by omega) (by omega) (by omega) (by omega)) (funext fun k => k1 63 k (by omega) (by omega) (by omega) (by omega)) rfl, hD.2.2.1.of (k1 57 13 (by omega) (by omega) (by omega) (by omega)) (funext fun k => k1 64 k (by omega) (by omega) (by omega) (by omega)), hD.2.2.2.1.of (k1 57 14 (by omega) (by omega) (by omega) (by omega)) (k1 57 15 (by omega) (by omega) (by omega) (by omega)), (by show CLaw s1 65 (updN (xLw x) 2 q.2 0); rw [show updN (xLw x) 2 q.2 0 = xLw x 0 from if_neg (by decide)]; exact hD.2.2.2.2.1.of (k1 65 4 (by omega) (by omega) (by omega) (by omega)) (funext fun k => k1 66 k (by omega) (by omega) (by omega) (by omega)) (funext fun k => k1 67 k (by omega) (by omega) (by omega) (by omega))), (by show CLaw s1 69 (updN (xLw x) 2 q.2 1); rw [show updN (xLw x) 2 q.2 1 = xLw x 1 from if_neg (by decide)]; exact hD.2.2.2.2.2.1.of (k1 69 4 (by omega) (by omega) (by omega) (by omega)) (funext fun k => k1 70 k (by omega) (by omega) (by omega) (by omega)) (funext fun k => k1 71 k (by omega) (by omega) (by omega) (by omega))), (by show CLaw s1 73 (updN (xLw x) 2 q.2 2); rw [show updN (xLw x) 2 q.2 2 = q.2 from if_pos rfl]; exact hq1 q hq), (by show CLaw s1 77 (updN (xLw x) 2 q.2 3); rw [show updN (xLw x) 2 q.2 3 = xLw x 3 from if_neg (by decide)]; exact hD.2.2.2.2.2.2.2.of (k1 77 4 (by omega) (by omega) (by omega) (by omega)) (funext fun k => k1 78 k (by omega) (by omega) (by omega) (by omega)) (funext fun k => k1 79 k (by omega) (by omega) (by omega) (by omega)))⟩, hl.of (k1 8 4 (by omega) (by omega) (by omega) (by omega)) (k1 8 5 (by omega) (by omega) (by omega) (by omega))⟩
  · have hB : telB K v nm x n0 = lwT K v x 3 n0 := by
      unfold telB
      rw [h0]
      rfl
    rw [h0, show nI 262 = 262 from rfl]
    refine ab_go ok_Re_parseTell 1 rfl ?_
    rw [show ab_tgt 256 [3, 7, 11, 15, 20, 25, 30, 35, 45] 55 262 = 30 from by decide]
    show ab_Z m_Re_parseTell _ _ _ 30 [_, _] [] _
    refine ab_go ok_Re_parseTell 3 rfl ?_
    show ab_Z m_Re_parseTell _ _ _ 33 [_, _] [_, _] _
    refine ab_cl ok_Re_parseTell rfl [_, _] [] rfl ⟨_, _, rfl, rfl, Or.inl ⟨_, _, rfl, rfl⟩⟩ (Nat.le_of_ble_eq_true rfl) (t_Re_parseLaw_77 d fm X s t hT hR h0) ?_
    rintro _ _ ⟨rfl, s1, rfl, k1, hR1, hq1⟩
    show ab_Z m_Re_parseTell _ _ _ 34 [_, _] [] _
    refine ab_go ok_Re_parseTell 1 rfl ?_
    show ab_Z m_Re_parseTell _ _ _ 58 [_, _] [] _
    refine tail s1 t (k1.r (by decide)) (KRt.rf t) (.inl ⟨xLt x, hl.of (k1 8 4 (by omega) (by omega) (by omega) (by omega)) (k1 8 5 (by omega) (by omega) (by omega) (by omega))⟩) ?_ (fun a ha => ?_)
    · rw [hB]
      have e1 : mpT Prod.fst (lwT K v x 3 n0) = mpT Prod.fst (lawT K v n0) := by
        unfold lwT
        cases lawT K v n0 <;> rfl
      rw [e1]
      exact hR1
    · rw [hB] at ha
      obtain ⟨q, hq, hq2⟩ := bnd_in ha
      cases hq2
      refine ⟨⟨hD.1.of (k1 57 11 (by omega) (by omega) (by omega) (by omega)) (funext fun k => k1 59 k (by omega) (by omega) (by omega) (by omega)) (funext fun k => k1 60 k (by omega) (by omega) (by omega) (by omega)) rfl, hD.2.1.of (k1 57 12 (by omega) (by omega) (by omega) (by omega)) (funext fun k => k1 62 k (by omega) (by omega) (by omega) (by omega)) (funext fun k => k1 63 k (by omega) (by omega) (by omega) (by omega)) rfl, hD.2.2.1.of (k1 57 13 (by omega) (by omega) (by omega) (by omega)) (funext fun k => k1 64 k (by omega) (by omega) (by omega) (by omega)), hD.2.2.2.1.of (k1 57 14 (by omega) (by omega) (by omega) (by omega)) (k1 57 15 (by omega) (by omega) (by omega) (by omega)), (by show CLaw s1 65 (updN (xLw x) 3 q.2 0); rw [show updN (xLw x) 3 q.2 0 = xLw x 0 from if_neg (by decide)]; exact hD.2.2.2.2.1.of (k1 65 4 (by omega) (by omega) (by omega) (by omega)) (funext fun k => k1 66 k (by omega) (by omega) (by omega) (by omega)) (funext fun k => k1 67 k (by omega) (by omega) (by omega) (by omega))), (by show CLaw s1 69 (updN (xLw x) 3 q.2 1); rw [show updN (xLw x) 3 q.2 1 = xLw x 1 from if_neg (by decide)]; exact hD.2.2.2.2.2.1.of (k1 69 4 (by omega) (by omega) (by omega) (by omega)) (funext fun k => k1 70 k (by omega) (by omega) (by omega) (by omega)) (funext fun k => k1 71 k (by omega) (by omega) (by omega) (by omega))), (by show CLaw s1 73 (updN (xLw x) 3 q.2 2); rw [show updN (xLw x) 3 q.2 2 = xLw x 2 from if_neg (by decide)]; exact hD.2.2.2.2.2.2.1.of (k1 73 4 (by omega) (by omega) (by omega) (by omega)) (funext fun k => k1 74 k (by omega) (by omega) (by omega) (by omega)) (funext fun k => k1 75 k (by omega) (by omega) (by omega) (by omega))), (by show CLaw s1 77 (updN (xLw x) 3 q.2 3); rw [show updN (xLw x) 3 q.2 3 = q.2 from if_pos rfl]; exact hq1 q hq)⟩, hl.of (k1 8 4 (by omega) (by omega) (by omega) (by omega)) (k1 8 5 (by omega) (by omega) (by omega) (by omega))⟩
  · have hB : telB K v nm x n0 = slT' K v x n0 := by
      unfold telB
      rw [h0]
      rfl
    rw [h0, show nI 263 = 263 from rfl]
    refine ab_go ok_Re_parseTell 1 rfl ?_
    rw [show ab_tgt 256 [3, 7, 11, 15, 20, 25, 30, 35, 45] 55 263 = 35 from by decide]
    show ab_Z m_Re_parseTell _ _ _ 35 [_, _] [] _
    refine ab_go ok_Re_parseTell 2 rfl ?_
    show ab_Z m_Re_parseTell _ _ _ 37 [_, _] [_, _] _
    refine ab_cl ok_Re_parseTell rfl [_, _] [] rfl ⟨_, _, rfl, rfl, Or.inl ⟨_, _, rfl, rfl⟩⟩ (Nat.le_of_ble_eq_true rfl) (t_Re_accept (d + 23) fm X s t hT hR (w := 263) (by decide) (by decide) _ rfl) ?_
    rintro _ _ ⟨rfl, s1, rfl, k1, hR1⟩
    show ab_Z m_Re_parseTell _ _ _ 38 [_, _] [_] _
    have heat : bnd (.inl n0 : Rs Nat) (eatT K 263) = goT n0 := by
      rw [bnd_l]
      unfold eatT
      rw [if_pos h0]
    rw [heat] at hR1
    have hD1 := hD.l k1.l
    refine ab_go ok_Re_parseTell 4 rfl ?_
    show ab_Z m_Re_parseTell _ _ _ 42 [_, _] [_, _, _] _
    refine ab_cl ok_Re_parseTell rfl [_, _] [_] rfl ⟨_, _, rfl, rfl, Or.inl ⟨_, _, rfl, rfl⟩⟩ (Nat.le_of_ble_eq_true rfl) (t_Re_acceptInt (d + 22) fm X s1 t (hT.k k1.l.r (KRt.rf t)) hR1 (k1.lt hl) (m := 100) (by decide) _ rfl) ?_
    rintro _ _ ⟨y, s2, rfl, rfl, k2, hR2, hl2, hy⟩
    show ab_Z m_Re_parseTell _ _ _ 43 [_, _] [_, _] _
    have hD2 := hD1.l k2
    refine ab_go ok_Re_parseTell 2 rfl ?_
    show ab_Z m_Re_parseTell _ _ _ 58 [_, _] [] _
    have e8 : ∀ j, ab_up s2 57 14 y 8 j = s2 8 j := fun j => by rw [ab_up_o (by decide)]
    have er : ∀ c, c ≠ 57 → ab_up s2 57 14 y c = s2 c := fun c hc => ab_up_o hc
    refine tail _ t (fun c k h1 h2 => by rw [ab_up_o (by omega), k2 c k h1, k1 c k (fun z => h1 z.1)]) (KRt.rf t) (.inl (by obtain ⟨l2, hl2⟩ := hl2; exact ⟨l2, hl2.of (e8 4) (e8 5)⟩)) ?_ (fun a ha => ?_)
    · rw [hB]
      have e1 : mpT Prod.fst (slT' K v x n0) = mpT Prod.fst (bnd (goT n0) fun n => intT K v 100 n (xLt x)) := by
        unfold slT'
        cases goT n0 with
        | inr e => rfl
        | inl t1 =>
          simp only [bnd_l]
          cases intT K v 100 t1 (xLt x) <;> rfl
      rw [e1]
      exact hR2.of (e8 1) (e8 2) (e8 3)
    · rw [hB] at ha
      obtain ⟨t1, b1, b2⟩ := bnd_in ha
      obtain ⟨a1, b3, b4⟩ := bnd_in b2
      cases b4
      obtain ⟨y1, y2⟩ := hy a1 (by rw [b1, bnd_l]; exact b3)
      refine ⟨⟨hD2.1.of (ab_up_n (by decide)) (er 59 (by decide)) (er 60 (by decide)) rfl, hD2.2.1.of (ab_up_n (by decide)) (er 62 (by decide)) (er 63 (by decide)) rfl, hD2.2.2.1.of (ab_up_n (by decide)) (er 64 (by decide)), ⟨ab_up_s .. |>.trans y1, by rw [ab_up_n (by decide)]; exact hD2.2.2.2.1.2⟩, hD2.2.2.2.2.of (fun c h1 h2 => er c (by omega))⟩, y2.of (e8 4) (e8 5)⟩
  · have hB : telB K v nm x n0 = sdT K v x n0 := by
      unfold telB
      rw [h0]
      rfl
    rw [h0, show nI 264 = 264 from rfl]
    refine ab_go ok_Re_parseTell 1 rfl ?_
    rw [show ab_tgt 256 [3, 7, 11, 15, 20, 25, 30, 35, 45] 55 264 = 45 from by decide]
    show ab_Z m_Re_parseTell _ _ _ 45 [_, _] [] _
    refine ab_go ok_Re_parseTell 2 rfl ?_
    show ab_Z m_Re_parseTell _ _ _ 47 [_, _] [_, _] _
    refine ab_cl ok_Re_parseTell rfl [_, _] [] rfl ⟨_, _, rfl, rfl, Or.inl ⟨_, _, rfl, rfl⟩⟩ (Nat.le_of_ble_eq_true rfl) (t_Re_accept (d + 23) fm X s t hT hR (w := 264) (by decide) (by decide) _ rfl) ?_
    rintro _ _ ⟨rfl, s1, rfl, k1, hR1⟩
    show ab_Z m_Re_parseTell _ _ _ 48 [_, _] [_] _
    have heat : bnd (.inl n0 : Rs Nat) (eatT K 264) = goT n0 := by
      rw [bnd_l]
      unfold eatT
      rw [if_pos h0]
    rw [heat] at hR1
    have hD1 := hD.l k1.l
    refine ab_go ok_Re_parseTell 4 rfl ?_
    show ab_Z m_Re_parseTell _ _ _ 52 [_, _] [_, _, _] _
    refine ab_cl ok_Re_parseTell rfl [_, _] [_] rfl ⟨_, _, rfl, rfl, Or.inl ⟨_, _, rfl, rfl⟩⟩ (Nat.le_of_ble_eq_true rfl) (t_Re_acceptInt (d + 22) fm X s1 t (hT.k k1.l.r (KRt.rf t)) hR1 (k1.lt hl) (m := 9999) (by decide) _ rfl) ?_
    rintro _ _ ⟨y, s2, rfl, rfl, k2, hR2, hl2, hy⟩
    show ab_Z m_Re_parseTell _ _ _ 53 [_, _] [_, _] _
    have hD2 := hD1.l k2
    refine ab_go ok_Re_parseTell 2 rfl ?_
    show ab_Z m_Re_parseTell _ _ _ 58 [_, _] [] _
    have e8 : ∀ j, ab_up s2 57 15 y 8 j = s2 8 j := fun j => by rw [ab_up_o (by decide)]
    have er : ∀ c, c ≠ 57 → ab_up s2 57 15 y c = s2 c := fun c hc => ab_up_o hc
    refine tail _ t (fun c k h1 h2 => by rw [ab_up_o (by omega), k2 c k h1, k1 c k (fun z => h1 z.1)]) (KRt.rf t) (.inl (by obtain ⟨l2, hl2⟩ := hl2; exact ⟨l2, hl2.of (e8 4) (e8 5)⟩)) ?_ (fun a ha => ?_)
    · rw [hB]
      have e1 : mpT Prod.fst (sdT K v x n0) = mpT Prod.fst (bnd (goT n0) fun n => intT K v 9999 n (xLt x)) := by
        unfold sdT
        cases goT n0 with
        | inr e => rfl
        | inl t1 =>
          simp only [bnd_l]
          cases intT K v 9999 t1 (xLt x) <;> rfl
      rw [e1]
      exact hR2.of (e8 1) (e8 2) (e8 3)
    · rw [hB] at ha
      obtain ⟨t1, b1, b2⟩ := bnd_in ha
      obtain ⟨a1, b3, b4⟩ := bnd_in b2
      cases b4
      obtain ⟨y1, y2⟩ := hy a1 (by rw [b1, bnd_l]; exact b3)
      refine ⟨⟨hD2.1.of (ab_up_n (by decide)) (er 59 (by decide)) (er 60 (by decide)) rfl, hD2.2.1.of (ab_up_n (by decide)) (er 62 (by decide)) (er 63 (by decide)) rfl, hD2.2.2.1.of (ab_up_n (by decide)) (er 64 (by decide)), ⟨by rw [ab_up_n (by decide)]; exact hD2.2.2.2.1.1, ab_up_s .. |>.trans y1⟩, hD2.2.2.2.2.of (fun c h1 h2 => er c (by omega))⟩, y2.of (e8 4) (e8 5)⟩
  · have hB : telB K v nm x n0 = .inr (1, n0) := by
      unfold telB
      rw [if_neg (by omega), if_neg (by omega), if_neg (by omega), if_neg (by omega), if_neg (by omega), if_neg (by omega), if_neg (by omega), if_neg (by omega), if_neg (by omega)]
    refine ab_go ok_Re_parseTell 1 rfl ?_
    rw [ab_tgt_d ((show (nI (K n0)).toInt < 256 ∨ (265 : Int) ≤ (nI (K n0)).toInt by rw [nI_t (by omega)]; omega))]
    show ab_Z m_Re_parseTell _ _ _ 55 [_, _] [] _
    refine ab_go ok_Re_parseTell 2 rfl ?_
    show ab_Z m_Re_parseTell _ _ _ 57 [_, _] [_, _] _
    refine ab_cl ok_Re_parseTell rfl [_, _] [] rfl ⟨_, _, rfl, rfl, Or.inl ⟨_, _, rfl, rfl⟩⟩ (Nat.le_of_ble_eq_true rfl) (t_Re_fail (d + 23) fm X s t hR (c := 1) (by omega) _ rfl) ?_
    rintro _ _ ⟨rfl, s1, rfl, k1, hR1⟩
    show ab_Z m_Re_parseTell _ _ _ 58 [_, _] [] _
    refine tail s1 t k1.l.r (KRt.rf t) (.inl ⟨_, k1.lt hl⟩) (by rw [hB]; exact hR1) (fun a ha => by rw [hB] at ha; cases ha)
end

