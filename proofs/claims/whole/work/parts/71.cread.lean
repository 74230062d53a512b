section
variable (d : Nat) (fm : Value) (X : Nat × (Nat → Int32)) (s : Nat → Nat → Int32) (t : Nat → Nat → Int64)
variable {K P v : Nat → Nat} {nm : Nat → List Nat}
theorem t_Re_parseClerk (hT : TC s t K P v nm) {n0 : Nat} (hR : Rd s K (.inl n0)) (hK0 : K n0 = 256) {x : Tx} (hD : DrC s t x) (hl : Lt s (xLt x)) : ab_T g_Re_parseClerk (d + 3) (0, 0) [.ref 8, .ref 57] (HA fm X s t) (PTl fm X s t K (clkT K v nm x n0)) := by
  have hn5 : xNc x ≤ 5 := hD.1.2.1
  have hnI : s 57 11 = nI (xNc x) := hD.1.1
  generalize hPo : PTl fm X s t K (clkT K v nm x n0) = Po
  have main : ∀ s1, KA s s1 → Rd s1 K (if xNc x = 5 then .inr (2, n0) else .inl n0) → ab_Z m_Re_parseClerk (d + 3) (0, 0) Po 9 [some (.ref 8), some (.ref 57), some (.int (nI (xNc x))), none, none, none] [] (HA fm X s1 t) := by
    intro s1 k1 hR1
    have hT1 := hT.k k1.l.r (KRt.rf t)
    have hD1 := hD.l k1.l
    obtain ⟨R2, hR2e⟩ : ∃ R2, R2 = bnd (if xNc x = 5 then .inr (2, n0) else .inl n0 : Rs Nat) (eatT K 256) := ⟨_, rfl⟩
    refine ab_go ok_Re_parseClerk 2 rfl ?_
    show ab_Z m_Re_parseClerk _ _ _ 11 [_, _, _, _, _, _] [_, _] _
    refine ab_cl ok_Re_parseClerk rfl [_, _] [] rfl ⟨_, _, rfl, rfl, Or.inl ⟨_, _, rfl, rfl⟩⟩ (Nat.le_of_ble_eq_true rfl) (t_Re_accept (d + 2) fm X s1 t hT1 hR1 (w := 256) (by decide) (by decide) _ rfl) ?_
    rintro _ _ ⟨rfl, s2, rfl, k2, hR2⟩
    show ab_Z m_Re_parseClerk _ _ _ 12 [_, _, _, _, _, _] [_] _
    rw [← hR2e] at hR2
    have hT2 := hT1.k k2.l.r (KRt.rf t)
    have hD2 := hD1.l k2.l
    have hl2 := k2.lt (k1.lt hl)
    refine ab_go ok_Re_parseClerk 3 rfl ?_
    show ab_Z m_Re_parseClerk _ _ _ 15 [_, _, _, _, _, _] [_, _] _
    refine ab_cl ok_Re_parseClerk rfl [_, _] [] rfl ⟨_, _, rfl, rfl, Or.inl ⟨_, _, rfl, rfl⟩⟩ (Nat.le_of_ble_eq_true rfl) (t_Re_acceptNewName d fm X s2 t hT2 hR2 hl2 hD2.1 hD2.2.1) ?_
    rintro _ _ ⟨y, s3, rfl, rfl, k3, hR3, ⟨l3, hl3⟩, hy⟩
    show ab_Z m_Re_parseClerk _ _ _ 16 [_, _, _, _, _, _] [_] _
    have hT3 := hT2.k k3.r (KRt.rf t)
    have hD3 := hD2.l k3
    obtain ⟨l4, hl4, hl4e⟩ : ∃ l4, Lt s3 l4 ∧ ∀ n n1, R2 = .inl n → eatT K 2 n = .inl n1 → l4 = if hasX x (nm n) = true then ltU (xLt x) 3 n else xLt x := by
      cases hq : R2 with
      | inr e => exact ⟨l3, hl3, fun n n1 h => by cases h⟩
      | inl n =>
        cases hq2 : eatT K 2 n with
        | inr e => exact ⟨l3, hl3, fun n' n1 h h2 => by cases h; rw [hq2] at h2; cases h2⟩
        | inl n1 => exact ⟨_, (hy n n1 hq hq2).2.2, fun n' n1' h _ => by cases h; rfl⟩
    refine ab_go ok_Re_parseClerk 3 rfl ?_
    show ab_Z m_Re_parseClerk _ _ _ 19 [_, _, _, _, _, _] [_, _] _
    refine ab_cl ok_Re_parseClerk rfl [_, _] [] rfl ⟨_, _, rfl, rfl, Or.inl ⟨_, _, rfl, rfl⟩⟩ (Nat.le_of_ble_eq_true rfl) (t_Re_acceptInt (d + 1) fm X s3 t hT3 hR3 hl4 (m := 99) (by decide) _ rfl) ?_
    rintro _ _ ⟨ag, s4, rfl, rfl, k4, hR4, ⟨l5, hl5⟩, hag⟩
    show ab_Z m_Re_parseClerk _ _ _ 20 [_, _, _, _, _, _] [_] _
    have hT4 := hT3.k k4.r (KRt.rf t)
    have hD4 := hD3.l k4
    obtain ⟨l6, hl6, hl6e⟩ : ∃ l6, Lt s4 l6 ∧ ∀ a, (bnd (bnd R2 (eatT K 2)) fun n => intT K v 99 n l4) = .inl a → l6 = a.2.2 := by
      cases hq : (bnd (bnd R2 (eatT K 2)) fun n => intT K v 99 n l4) with
      | inr e => exact ⟨l5, hl5, fun a h => by cases h⟩
      | inl a => exact ⟨a.2.2, (hag a hq).2, fun b h => by cases h; rfl⟩
    refine ab_go ok_Re_parseClerk 5 rfl ?_
    show ab_Z m_Re_parseClerk _ _ _ 25 [_, _, _, _, _, _] [_, _, _] _
    refine ab_cl ok_Re_parseClerk rfl [_, _, _] [] rfl ⟨_, _, rfl, rfl, Or.inl ⟨_, _, rfl, rfl⟩⟩ (Nat.le_of_ble_eq_true rfl) (t_Re_acceptLevels_60 d fm X s4 t hT4 hR4 hl6 (show xNc x ≤ 6 by omega)) ?_
    rintro _ _ ⟨rfl, s5, rfl, k5, hR5, ⟨l7, hl7⟩, hlv⟩
    show ab_Z m_Re_parseClerk _ _ _ 26 [_, _, _, _, _, _] [] _
    refine ab_go ok_Re_parseClerk 4 rfl ?_
    show ab_Z m_Re_parseClerk _ _ _ 30 [_, _, _, _, _, _] [_, _, _] _
    refine ab_cl ok_Re_parseClerk rfl [_, _, _] [] rfl rfl (Nat.le_of_ble_eq_true rfl) (t_SF_putLongX_58 (d + 2) fm X s5 t _ y) ?_
    rintro _ _ ⟨rfl, t6, rfl, k6, hp6⟩
    show ab_Z m_Re_parseClerk _ _ _ 31 [_, _, _, _, _, _] [] _
    refine ab_go ok_Re_parseClerk 4 rfl ?_
    show ab_Z m_Re_parseClerk _ _ _ 35 [_, _, _, _, _, _] [_, _, _] _
    refine ab_cl ok_Re_parseClerk rfl [_, _, _] [] rfl rfl (Nat.le_of_ble_eq_true rfl) (t_SF_putX_59 (d + 2) fm X s5 t6 _ ag) ?_
    rintro _ _ ⟨rfl, s7, rfl, k7, hp7⟩
    show ab_Z m_Re_parseClerk _ _ _ 36 [_, _, _, _, _, _] [] _
    refine ab_go ok_Re_parseClerk 5 rfl ?_
    show ab_Z m_Re_parseClerk _ _ _ 41 [_, _, _, _, _, _] [_, _, _] _
    refine ab_cl ok_Re_parseClerk rfl [_, _] [_] rfl rfl (Nat.le_of_ble_eq_true rfl) (t_JM_min (d + 2) _ _ _) ?_
    rintro _ _ ⟨rfl, rfl⟩
    show ab_Z m_Re_parseClerk _ _ _ 42 [_, _, _, _, _, _] [_, _] _
    rw [show (if (5 : Int32) < nI (xNc x) + 1 then (5 : Int32) else nI (xNc x) + 1) = nI (if xNc x < 5 then xNc x + 1 else 5) from min_n (m := 5) (by omega) (by decide)]
    refine ab_go ok_Re_parseClerk 1 rfl ?_
    show ab_Z m_Re_parseClerk _ _ _ 43 [_, _, _, _, _, _] [] _
    have kR : KR s (ab_up s7 57 11 (nI (if xNc x < 5 then xNc x + 1 else 5))) := fun c k h1 h2 => by
      rw [ab_up_o (by omega), k7 c (by omega), k5 c k h1 (by omega), k4 c k h1, k3 c k h1, k2 c k (fun z => h1 z.1), k1 c k (fun z => h1 z.1)]
    have kT : KRt t t6 := fun c h1 h2 => k6 c (by omega)
    have e8 : ∀ k, ab_up s7 57 11 (nI (if xNc x < 5 then xNc x + 1 else 5)) 8 k = s5 8 k := fun k => by rw [ab_up_o (by decide), k7 8 (by decide)]
    have hpos : mpT Prod.fst (clkT K v nm x n0) = mpT Prod.fst (bnd (mpT Prod.fst (bnd (bnd R2 (eatT K 2)) fun n => intT K v 99 n l4)) fun n => lv3T K v n l6) := by
      unfold clkT
      by_cases h5 : xNc x = 5
      · rw [if_pos h5] at hR2e ⊢
        rw [hR2e]
        rfl
      · rw [if_neg h5] at hR2e ⊢
        rw [bnd_l] at hR2e
        unfold eatT at hR2e
        rw [if_pos hK0] at hR2e
        rw [← hR2e]
        cases hq : R2 with
        | inr e => rfl
        | inl n1 =>
          rw [bnd_l, bnd_l]
          cases hq2 : eatT K 2 n1 with
          | inr e => rfl
          | inl n2 =>
            rw [bnd_l, bnd_l, ← hl4e n1 n2 hq hq2]
            cases hq3 : intT K v 99 n2 l4 with
            | inr e => rfl
            | inl a =>
              rw [bnd_l]
              show mpT Prod.fst (bnd (lv3T K v a.1 a.2.2) _) = mpT Prod.fst (lv3T K v a.1 l6)
              rw [hl6e a (by rw [hq, bnd_l, hq2, bnd_l]; exact hq3)]
              cases lv3T K v a.1 a.2.2 <;> rfl
    have fin : Po none (HA fm X (ab_up s7 57 11 (nI (if xNc x < 5 then xNc x + 1 else 5))) t6) := by
      rw [← hPo]
      refine ⟨rfl, _, _, rfl, kR, kT, ?_, ⟨l7, hl7.of (e8 4) (e8 5)⟩, fun a ha => ?_⟩
      · rw [hpos]
        exact hR5.of (e8 1) (e8 2) (e8 3)
      · unfold clkT at ha
        by_cases h5 : xNc x = 5
        · rw [if_pos h5] at ha; cases ha
        · rw [if_neg h5] at ha
          have hlt : xNc x < 5 := by omega
          rw [if_neg h5, bnd_l] at hR2e
          unfold eatT at hR2e
          rw [if_pos hK0] at hR2e
          obtain ⟨n1, q1, q2⟩ := bnd_in ha
          rw [q1] at hR2e
          obtain ⟨n2, q3, q4⟩ := bnd_in q2
          rw [← hl4e n1 n2 hR2e q3] at q4
          obtain ⟨a1, q5, q6⟩ := bnd_in q4
          obtain ⟨b1, q7, q8⟩ := bnd_in q6
          cases q8
          obtain ⟨y1, y2, -⟩ := hy n1 n2 hR2e q3
          have hI : (bnd (bnd R2 (eatT K 2)) fun n => intT K v 99 n l4) = .inl a1 := by rw [hR2e, bnd_l, q3, bnd_l]; exact q5
          have g1 := (hag a1 hI).1
          have g2 := hl6e a1 hI
          have hV : (bnd (mpT Prod.fst (bnd (bnd R2 (eatT K 2)) fun n => intT K v 99 n l4)) fun n => lv3T K v n l6) = .inl b1 := by rw [hI, g2]; exact q7
          obtain ⟨z1, z2, z3⟩ := hlv b1 hV hlt
          have u6 := hp6 (xNc x) hlt rfl
          have u7 := hp7 (xNc x) hlt rfl
          refine ⟨?_, z3.of (e8 4) (e8 5)⟩
          have rw5 : ∀ c k, c ≠ 8 → c ≠ 60 → c ≠ 59 → ¬ (c = 57 ∧ k = 11) → ab_up s7 57 11 (nI (if xNc x < 5 then xNc x + 1 else 5)) c k = s3 c k := fun c k h1 h2 h3 h4 => by
            by_cases h57 : c = 57
            · subst h57
              rw [ab_up_n (fun z => h4 ⟨rfl, z⟩), k7 57 (by decide), k5 57 k (by decide) (by decide), k4 57 k (by decide)]
            · rw [ab_up_o h57, k7 c h3, k5 c k h1 h2, k4 c k h1]
          have rwr : ∀ c, c ≠ 8 → c ≠ 60 → c ≠ 59 → c ≠ 57 → ab_up s7 57 11 (nI (if xNc x < 5 then xNc x + 1 else 5)) c = s3 c := fun c h1 h2 h3 h4 => funext fun k => rw5 c k h1 h2 h3 (fun z => h4 z.1)
          have eA : ∀ k, ab_up s7 57 11 (nI (if xNc x < 5 then xNc x + 1 else 5)) 59 k = ab_up s5 59 (xNc x) ag 59 k := fun k => by rw [ab_up_o (by decide), u7]
          have eL : ∀ k, ab_up s7 57 11 (nI (if xNc x < 5 then xNc x + 1 else 5)) 60 k = s5 60 k := fun k => by rw [ab_up_o (by decide), k7 60 (by decide)]
          have blk : DcB (ab_up s7 57 11 (nI (if xNc x < 5 then xNc x + 1 else 5))) t6 (xNc x + 1, updN (xAg x) (xNc x) a1.2.1, fil3 (xFc x) (xNc x) b1.2.1, updN (xCn x) (xNc x) (nm n1)) := by
            refine ⟨by rw [ab_up_s, if_pos hlt], show xNc x + 1 ≤ 5 by omega, fun c hc => ?_⟩
            have hc' : c < xNc x + 1 := hc
            rw [eA, u6]
            by_cases hcn : c = xNc x
            · subst hcn
              rw [ab_up_s, ab_up_s]
              refine ⟨?_, ?_, ?_, fun f hf => ?_⟩
              · rw [g1]
                show nI a1.2.1 = nI (updN (xAg x) (xNc x) a1.2.1 (xNc x))
                unfold updN
                rw [if_pos rfl]
              · rw [y1]
                show _ = lN (cdL 32 (updN (xCn x) (xNc x) (nm n1) (xNc x)))
                unfold updN
                rw [if_pos rfl]
              · show nmO (updN (xCn x) (xNc x) (nm n1) (xNc x))
                unfold updN
                rw [if_pos rfl]
                exact y2
              · rw [eL, z1 f hf]
                show _ = nI (fil3 (xFc x) (xNc x) b1.2.1 (3 * xNc x + f))
                unfold fil3
                rw [if_pos (by omega), Nat.add_sub_cancel_left]
            · obtain ⟨w1, w2, w3, w4⟩ := hD4.1.2.2 c (show c < xNc x by omega)
              rw [ab_up_n hcn, ab_up_n hcn, k5 59 c (by decide) (by decide)]
              refine ⟨?_, ?_, ?_, fun f hf => ?_⟩
              · rw [w1]
                show _ = nI (updN (xAg x) (xNc x) a1.2.1 c)
                unfold updN
                rw [if_neg hcn]
              · rw [w2]
                show _ = lN (cdL 32 (updN (xCn x) (xNc x) (nm n1) c))
                unfold updN
                rw [if_neg hcn]
              · show nmO (updN (xCn x) (xNc x) (nm n1) c)
                unfold updN
                rw [if_neg hcn]
                exact w3
              · rw [eL, z2 _ (by omega), w4 f hf]
                show _ = nI (fil3 (xFc x) (xNc x) b1.2.1 (3 * c + f))
                unfold fil3
                rw [if_neg (by omega)]
          refine ⟨blk, hD3.2.1.of (rw5 57 12 (by decide) (by decide) (by decide) (by decide)) (rwr 62 (by decide) (by decide) (by decide) (by decide)) (rwr 63 (by decide) (by decide) (by decide) (by decide)) (k6 61 (by decide)), hD3.2.2.1.of (rw5 57 13 (by decide) (by decide) (by decide) (by decide)) (rwr 64 (by decide) (by decide) (by decide) (by decide)), hD3.2.2.2.1.of (rw5 57 14 (by decide) (by decide) (by decide) (by decide)) (rw5 57 15 (by decide) (by decide) (by decide) (by decide)), hD3.2.2.2.2.of (fun c h1 h2 => rwr c (by omega) (by omega) (by omega) (by omega))⟩
    exact ab_rV ok_Re_parseClerk rfl (fin)
  refine ab_T_of (M := m_Re_parseClerk) rfl rfl (Nat.le_of_ble_eq_true rfl) ?_
  show ab_Z m_Re_parseClerk _ _ _ 0 [_, _, _, _, _, _] [] _
  refine ab_go ok_Re_parseClerk 5 rfl ?_
  show ab_Z m_Re_parseClerk _ _ _ 5 [_, _, _, _, _, _] [_, _] _
  rw [hnI]
  refine ab_br ok_Re_parseClerk rfl rfl ?_ ?_
  · intro h1
    show ab_Z m_Re_parseClerk _ _ _ 6 [_, _, _, _, _, _] [] _
    have h1' := (nI_eq (b := 5) (show xNc x < 2 ^ 31 by omega) (by decide)).mp h1
    refine ab_go ok_Re_parseClerk 2 rfl ?_
    show ab_Z m_Re_parseClerk _ _ _ 8 [_, _, _, _, _, _] [_, _] _
    refine ab_cl ok_Re_parseClerk rfl [_, _] [] rfl ⟨_, _, rfl, rfl, Or.inl ⟨_, _, rfl, rfl⟩⟩ (Nat.le_of_ble_eq_true rfl) (t_Re_fail (d + 2) fm X s t hR (c := 2) (by omega) _ rfl) ?_
    rintro _ _ ⟨rfl, s1, rfl, k1, hR1⟩
    show ab_Z m_Re_parseClerk _ _ _ 9 [_, _, _, _, _, _] [] _
    exact main s1 k1 (by rw [if_pos h1']; exact hR1)
  · intro h1
    show ab_Z m_Re_parseClerk _ _ _ 9 [_, _, _, _, _, _] [] _
    have h1' : ¬ xNc x = 5 := fun z => h1 (by rw [z]; rfl)
    exact main s (KA.rf s) (by rw [if_neg h1']; exact hR)
theorem t_Re_parseDeed (hT : TC s t K P v nm) {n0 : Nat} (hR : Rd s K (.inl n0)) (hK0 : K n0 = 257) {x : Tx} (hD : DrC s t x) (hl : Lt s (xLt x)) : ab_T g_Re_parseDeed (d + 3) (0, 0) [.ref 8, .ref 57] (HA fm X s t) (PTl fm X s t K (dedT K v nm x n0)) := by
  have hn5 : xNd x ≤ 6 := hD.2.1.2.1
  have hnI : s 57 12 = nI (xNd x) := hD.2.1.1
  generalize hPo : PTl fm X s t K (dedT K v nm x n0) = Po
  have main : ∀ s1, KA s s1 → Rd s1 K (if xNd x = 6 then .inr (2, n0) else .inl n0) → ab_Z m_Re_parseDeed (d + 3) (0, 0) Po 9 [some (.ref 8), some (.ref 57), some (.int (nI (xNd x))), none, none, none] [] (HA fm X s1 t) := by
    intro s1 k1 hR1
    have hT1 := hT.k k1.l.r (KRt.rf t)
    have hD1 := hD.l k1.l
    obtain ⟨R2, hR2e⟩ : ∃ R2, R2 = bnd (if xNd x = 6 then .inr (2, n0) else .inl n0 : Rs Nat) (eatT K 257) := ⟨_, rfl⟩
    refine ab_go ok_Re_parseDeed 2 rfl ?_
    show ab_Z m_Re_parseDeed _ _ _ 11 [_, _, _, _, _, _] [_, _] _
    refine ab_cl ok_Re_parseDeed rfl [_, _] [] rfl ⟨_, _, rfl, rfl, Or.inl ⟨_, _, rfl, rfl⟩⟩ (Nat.le_of_ble_eq_true rfl) (t_Re_accept (d + 2) fm X s1 t hT1 hR1 (w := 257) (by decide) (by decide) _ rfl) ?_
    rintro _ _ ⟨rfl, s2, rfl, k2, hR2⟩
    show ab_Z m_Re_parseDeed _ _ _ 12 [_, _, _, _, _, _] [_] _
    rw [← hR2e] at hR2
    have hT2 := hT1.k k2.l.r (KRt.rf t)
    have hD2 := hD1.l k2.l
    have hl2 := k2.lt (k1.lt hl)
    refine ab_go ok_Re_parseDeed 3 rfl ?_
    show ab_Z m_Re_parseDeed _ _ _ 15 [_, _, _, _, _, _] [_, _] _
    refine ab_cl ok_Re_parseDeed rfl [_, _] [] rfl ⟨_, _, rfl, rfl, Or.inl ⟨_, _, rfl, rfl⟩⟩ (Nat.le_of_ble_eq_true rfl) (t_Re_acceptNewName d fm X s2 t hT2 hR2 hl2 hD2.1 hD2.2.1) ?_
    rintro _ _ ⟨y, s3, rfl, rfl, k3, hR3, ⟨l3, hl3⟩, hy⟩
    show ab_Z m_Re_parseDeed _ _ _ 16 [_, _, _, _, _, _] [_] _
    have hT3 := hT2.k k3.r (KRt.rf t)
    have hD3 := hD2.l k3
    obtain ⟨l4, hl4, hl4e⟩ : ∃ l4, Lt s3 l4 ∧ ∀ n n1, R2 = .inl n → eatT K 2 n = .inl n1 → l4 = if hasX x (nm n) = true then ltU (xLt x) 3 n else xLt x := by
      cases hq : R2 with
      | inr e => exact ⟨l3, hl3, fun n n1 h => by cases h⟩
      | inl n =>
        cases hq2 : eatT K 2 n with
        | inr e => exact ⟨l3, hl3, fun n' n1 h h2 => by cases h; rw [hq2] at h2; cases h2⟩
        | inl n1 => exact ⟨_, (hy n n1 hq hq2).2.2, fun n' n1' h _ => by cases h; rfl⟩
    refine ab_go ok_Re_parseDeed 3 rfl ?_
    show ab_Z m_Re_parseDeed _ _ _ 19 [_, _, _, _, _, _] [_, _] _
    refine ab_cl ok_Re_parseDeed rfl [_, _] [] rfl ⟨_, _, rfl, rfl, Or.inl ⟨_, _, rfl, rfl⟩⟩ (Nat.le_of_ble_eq_true rfl) (t_Re_acceptInt (d + 1) fm X s3 t hT3 hR3 hl4 (m := 99) (by decide) _ rfl) ?_
    rintro _ _ ⟨ag, s4, rfl, rfl, k4, hR4, ⟨l5, hl5⟩, hag⟩
    show ab_Z m_Re_parseDeed _ _ _ 20 [_, _, _, _, _, _] [_] _
    have hT4 := hT3.k k4.r (KRt.rf t)
    have hD4 := hD3.l k4
    obtain ⟨l6, hl6, hl6e⟩ : ∃ l6, Lt s4 l6 ∧ ∀ a, (bnd (bnd R2 (eatT K 2)) fun n => intT K v 99 n l4) = .inl a → l6 = a.2.2 := by
      cases hq : (bnd (bnd R2 (eatT K 2)) fun n => intT K v 99 n l4) with
      | inr e => exact ⟨l5, hl5, fun a h => by cases h⟩
      | inl a => exact ⟨a.2.2, (hag a hq).2, fun b h => by cases h; rfl⟩
    refine ab_go ok_Re_parseDeed 5 rfl ?_
    show ab_Z m_Re_parseDeed _ _ _ 25 [_, _, _, _, _, _] [_, _, _] _
    refine ab_cl ok_Re_parseDeed rfl [_, _, _] [] rfl ⟨_, _, rfl, rfl, Or.inl ⟨_, _, rfl, rfl⟩⟩ (Nat.le_of_ble_eq_true rfl) (t_Re_acceptLevels_63 d fm X s4 t hT4 hR4 hl6 (show xNd x ≤ 6 by omega)) ?_
    rintro _ _ ⟨rfl, s5, rfl, k5, hR5, ⟨l7, hl7⟩, hlv⟩
    show ab_Z m_Re_parseDeed _ _ _ 26 [_, _, _, _, _, _] [] _
    refine ab_go ok_Re_parseDeed 4 rfl ?_
    show ab_Z m_Re_parseDeed _ _ _ 30 [_, _, _, _, _, _] [_, _, _] _
    refine ab_cl ok_Re_parseDeed rfl [_, _, _] [] rfl rfl (Nat.le_of_ble_eq_true rfl) (t_SF_putLongX_61 (d + 2) fm X s5 t _ y) ?_
    rintro _ _ ⟨rfl, t6, rfl, k6, hp6⟩
    show ab_Z m_Re_parseDeed _ _ _ 31 [_, _, _, _, _, _] [] _
    refine ab_go ok_Re_parseDeed 4 rfl ?_
    show ab_Z m_Re_parseDeed _ _ _ 35 [_, _, _, _, _, _] [_, _, _] _
    refine ab_cl ok_Re_parseDeed rfl [_, _, _] [] rfl rfl (Nat.le_of_ble_eq_true rfl) (t_SF_putX_62 (d + 2) fm X s5 t6 _ ag) ?_
    rintro _ _ ⟨rfl, s7, rfl, k7, hp7⟩
    show ab_Z m_Re_parseDeed _ _ _ 36 [_, _, _, _, _, _] [] _
    refine ab_go ok_Re_parseDeed 5 rfl ?_
    show ab_Z m_Re_parseDeed _ _ _ 41 [_, _, _, _, _, _] [_, _, _] _
    refine ab_cl ok_Re_parseDeed rfl [_, _] [_] rfl rfl (Nat.le_of_ble_eq_true rfl) (t_JM_min (d + 2) _ _ _) ?_
    rintro _ _ ⟨rfl, rfl⟩
    show ab_Z m_Re_parseDeed _ _ _ 42 [_, _, _, _, _, _] [_, _] _
    rw [show (if (6 : Int32) < nI (xNd x) + 1 then (6 : Int32) else nI (xNd x) + 1) = nI (if xNd x < 6 then xNd x + 1 else 6) from min_n (m := 6) (by omega) (by decide)]
    refine ab_go ok_Re_parseDeed 1 rfl ?_
    show ab_Z m_Re_parseDeed _ _ _ 43 [_, _, _, _, _, _] [] _
    have kR : KR s (ab_up s7 57 12 (nI (if xNd x < 6 then xNd x + 1 else 6))) := fun c k h1 h2 => by
      rw [ab_up_o (by omega), k7 c (by omega), k5 c k h1 (by omega), k4 c k h1, k3 c k h1, k2 c k (fun z => h1 z.1), k1 c k (fun z => h1 z.1)]
    have kT : KRt t t6 := fun c h1 h2 => k6 c (by omega)
    have e8 : ∀ k, ab_up s7 57 12 (nI (if xNd x < 6 then xNd x + 1 else 6)) 8 k = s5 8 k := fun k => by rw [ab_up_o (by decide), k7 8 (by decide)]
    have hpos : mpT Prod.fst (dedT K v nm x n0) = mpT Prod.fst (bnd (mpT Prod.fst (bnd (bnd R2 (eatT K 2)) fun n => intT K v 99 n l4)) fun n => lv3T K v n l6) := by
      unfold dedT
      by_cases h5 : xNd x = 6
      · rw [if_pos h5] at hR2e ⊢
        rw [hR2e]
        rfl
      · rw [if_neg h5] at hR2e ⊢
        rw [bnd_l] at hR2e
        unfold eatT at hR2e
        rw [if_pos hK0] at hR2e
        rw [← hR2e]
        cases hq : R2 with
        | inr e => rfl
        | inl n1 =>
          rw [bnd_l, bnd_l]
          cases hq2 : eatT K 2 n1 with
          | inr e => rfl
          | inl n2 =>
            rw [bnd_l, bnd_l, ← hl4e n1 n2 hq hq2]
            cases hq3 : intT K v 99 n2 l4 with
            | inr e => rfl
            | inl a =>
              rw [bnd_l]
              show mpT Prod.fst (bnd (lv3T K v a.1 a.2.2) _) = mpT Prod.fst (lv3T K v a.1 l6)
              rw [hl6e a (by rw [hq, bnd_l, hq2, bnd_l]; exact hq3)]
              cases lv3T K v a.1 a.2.2 <;> rfl
    have fin : Po none (HA fm X (ab_up s7 57 12 (nI (if xNd x < 6 then xNd x + 1 else 6))) t6) := by
      rw [← hPo]
      refine ⟨rfl, _, _, rfl, kR, kT, ?_, ⟨l7, hl7.of (e8 4) (e8 5)⟩, fun a ha => ?_⟩
      · rw [hpos]
        exact hR5.of (e8 1) (e8 2) (e8 3)
      · unfold dedT at ha
        by_cases h5 : xNd x = 6
        · rw [if_pos h5] at ha; cases ha
        · rw [if_neg h5] at ha
          have hlt : xNd x < 6 := by omega
          rw [if_neg h5, bnd_l] at hR2e
          unfold eatT at hR2e
          rw [if_pos hK0] at hR2e
          obtain ⟨n1, q1, q2⟩ := bnd_in ha
          rw [q1] at hR2e
          obtain ⟨n2, q3, q4⟩ := bnd_in q2
          rw [← hl4e n1 n2 hR2e q3] at q4
          obtain ⟨a1, q5, q6⟩ := bnd_in q4
          obtain ⟨b1, q7, q8⟩ := bnd_in q6
          cases q8
          obtain ⟨y1, y2, -⟩ := hy n1 n2 hR2e q3
          have hI : (bnd (bnd R2 (eatT K 2)) fun n => intT K v 99 n l4) = .inl a1 := by rw [hR2e, bnd_l, q3, bnd_l]; exact q5
          have g1 := (hag a1 hI).1
          have g2 := hl6e a1 hI
          have hV : (bnd (mpT Prod.fst (bnd (bnd R2 (eatT K 2)) fun n => intT K v 99 n l4)) fun n => lv3T K v n l6) = .inl b1 := by rw [hI, g2]; exact q7
          obtain ⟨z1, z2, z3⟩ := hlv b1 hV hlt
          have u6 := hp6 (xNd x) hlt rfl
          have u7 := hp7 (xNd x) hlt rfl
          refine ⟨?_, z3.of (e8 4) (e8 5)⟩
          have rw5 : ∀ c k, c ≠ 8 → c ≠ 63 → c ≠ 62 → ¬ (c = 57 ∧ k = 12) → ab_up s7 57 12 (nI (if xNd x < 6 then xNd x + 1 else 6)) c k = s3 c k := fun c k h1 h2 h3 h4 => by
            by_cases h57 : c = 57
            · subst h57
              rw [ab_up_n (fun z => h4 ⟨rfl, z⟩), k7 57 (by decide), k5 57 k (by decide) (by decide), k4 57 k (by decide)]
            · rw [ab_up_o h57, k7 c h3, k5 c k h1 h2, k4 c k h1]
          have rwr : ∀ c, c ≠ 8 → c ≠ 63 → c ≠ 62 → c ≠ 57 → ab_up s7 57 12 (nI (if xNd x < 6 then xNd x + 1 else 6)) c = s3 c := fun c h1 h2 h3 h4 => funext fun k => rw5 c k h1 h2 h3 (fun z => h4 z.1)
          have eA : ∀ k, ab_up s7 57 12 (nI (if xNd x < 6 then xNd x + 1 else 6)) 62 k = ab_up s5 62 (xNd x) ag 62 k := fun k => by rw [ab_up_o (by decide), u7]
          have eL : ∀ k, ab_up s7 57 12 (nI (if xNd x < 6 then xNd x + 1 else 6)) 63 k = s5 63 k := fun k => by rw [ab_up_o (by decide), k7 63 (by decide)]
          have blk : DdB (ab_up s7 57 12 (nI (if xNd x < 6 then xNd x + 1 else 6))) t6 (xNd x + 1, updN (xWo x) (xNd x) a1.2.1, fil3 (xNe x) (xNd x) b1.2.1, updN (xDn x) (xNd x) (nm n1)) := by
            refine ⟨by rw [ab_up_s, if_pos hlt], show xNd x + 1 ≤ 6 by omega, fun c hc => ?_⟩
            have hc' : c < xNd x + 1 := hc
            rw [eA, u6]
            by_cases hcn : c = xNd x
            · subst hcn
              rw [ab_up_s, ab_up_s]
              refine ⟨?_, ?_, ?_, fun f hf => ?_⟩
              · rw [g1]
                show nI a1.2.1 = nI (updN (xWo x) (xNd x) a1.2.1 (xNd x))
                unfold updN
                rw [if_pos rfl]
              · rw [y1]
                show _ = lN (cdL 32 (updN (xDn x) (xNd x) (nm n1) (xNd x)))
                unfold updN
                rw [if_pos rfl]
              · show nmO (updN (xDn x) (xNd x) (nm n1) (xNd x))
                unfold updN
                rw [if_pos rfl]
                exact y2
              · rw [eL, z1 f hf]
                show _ = nI (fil3 (xNe x) (xNd x) b1.2.1 (3 * xNd x + f))
                unfold fil3
                rw [if_pos (by omega), Nat.add_sub_cancel_left]
            · obtain ⟨w1, w2, w3, w4⟩ := hD4.2.1.2.2 c (show c < xNd x by omega)
              rw [ab_up_n hcn, ab_up_n hcn, k5 62 c (by decide) (by decide)]
              refine ⟨?_, ?_, ?_, fun f hf => ?_⟩
              · rw [w1]
                show _ = nI (updN (xWo x) (xNd x) a1.2.1 c)
                unfold updN
                rw [if_neg hcn]
              · rw [w2]
                show _ = lN (cdL 32 (updN (xDn x) (xNd x) (nm n1) c))
                unfold updN
                rw [if_neg hcn]
              · show nmO (updN (xDn x) (xNd x) (nm n1) c)
                unfold updN
                rw [if_neg hcn]
                exact w3
              · rw [eL, z2 _ (by omega), w4 f hf]
                show _ = nI (fil3 (xNe x) (xNd x) b1.2.1 (3 * c + f))
                unfold fil3
                rw [if_neg (by omega)]
          refine ⟨hD3.1.of (rw5 57 11 (by decide) (by decide) (by decide) (by decide)) (rwr 59 (by decide) (by decide) (by decide) (by decide)) (rwr 60 (by decide) (by decide) (by decide) (by decide)) (k6 58 (by decide)), blk, hD3.2.2.1.of (rw5 57 13 (by decide) (by decide) (by decide) (by decide)) (rwr 64 (by decide) (by decide) (by decide) (by decide)), hD3.2.2.2.1.of (rw5 57 14 (by decide) (by decide) (by decide) (by decide)) (rw5 57 15 (by decide) (by decide) (by decide) (by decide)), hD3.2.2.2.2.of (fun c h1 h2 => rwr c (by omega) (by omega) (by omega) (by omega))⟩
    exact ab_rV ok_Re_parseDeed rfl (fin)
  refine ab_T_of (M := m_Re_parseDeed) rfl rfl (Nat.le_of_ble_eq_true rfl) ?_
  show ab_Z m_Re_parseDeed _ _ _ 0 [_, _, _, _, _, _] [] _
  refine ab_go ok_Re_parseDeed 5 rfl ?_
  show ab_Z m_Re_parseDeed _ _ _ 5 [_, _, _, _, _, _] [_, _] _
  rw [hnI]
  refine ab_br ok_Re_parseDeed rfl rfl ?_ ?_
  · intro h1
    show ab_Z m_Re_parseDeed _ _ _ 6 [_, _, _, _, _, _] [] _
    have h1' := (nI_eq (b := 6) (show xNd x < 2 ^ 31 by omega) (by decide)).mp h1
    refine ab_go ok_Re_parseDeed 2 rfl ?_
    show ab_Z m_Re_parseDeed _ _ _ 8 [_, _, _, _, _, _] [_, _] _
    refine ab_cl ok_Re_parseDeed rfl [_, _] [] rfl ⟨_, _, rfl, rfl, Or.inl ⟨_, _, rfl, rfl⟩⟩ (Nat.le_of_ble_eq_true rfl) (t_Re_fail (d + 2) fm X s t hR (c := 2) (by omega) _ rfl) ?_
    rintro _ _ ⟨rfl, s1, rfl, k1, hR1⟩
    show ab_Z m_Re_parseDeed _ _ _ 9 [_, _, _, _, _, _] [] _
    exact main s1 k1 (by rw [if_pos h1']; exact hR1)
  · intro h1
    show ab_Z m_Re_parseDeed _ _ _ 9 [_, _, _, _, _, _] [] _
    have h1' : ¬ xNd x = 6 := fun z => h1 (by rw [z]; rfl)
    exact main s (KA.rf s) (by rw [if_neg h1']; exact hR)
end

