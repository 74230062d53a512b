section
variable (d : Nat) (fm : Value) (X : Nat × (Nat → Int32)) (s : Nat → Nat → Int32) (t : Nat → Nat → Int64)
variable {K P v : Nat → Nat} {nm : Nat → List Nat}
theorem t_Re_parseTreaty (hT : TC s t K P v nm) {n0 : Nat} (hR : Rd s K (.inl n0)) (hK0 : K n0 = 258) {x : Tx} (hD : DrC s t x) (hl : Lt s (xLt x)) : ab_T g_Re_parseTreaty (d + 3) (0, 0) [.ref 8, .ref 57] (HA fm X s t) (PTl fm X s t K (treT K nm x n0)) := by
  have hn5 : xNt x ≤ 6 := hD.2.2.1.2.1
  have hnI : s 57 13 = nI (xNt x) := hD.2.2.1.1
  generalize hPo : PTl fm X s t K (treT K nm x n0) = Po
  have main : ∀ s1, KA s s1 → Rd s1 K (if xNt x = 6 then .inr (2, n0) else .inl n0) → ab_Z m_Re_parseTreaty (d + 3) (0, 0) Po 9 [some (.ref 8), some (.ref 57), some (.int (nI (xNt x))), none, none, none] [] (HA fm X s1 t) := by
    intro s1 k1 hR1
    have hT1 := hT.k k1.l.r (KRt.rf t)
    have hD1 := hD.l k1.l
    obtain ⟨R2, hR2e⟩ : ∃ R2, R2 = bnd (if xNt x = 6 then .inr (2, n0) else .inl n0 : Rs Nat) (eatT K 258) := ⟨_, rfl⟩
    refine ab_go ok_Re_parseTreaty 2 rfl ?_
    show ab_Z m_Re_parseTreaty _ _ _ 11 [_, _, _, _, _, _] [_, _] _
    refine ab_cl ok_Re_parseTreaty rfl [_, _] [] rfl ⟨_, _, rfl, rfl, Or.inl ⟨_, _, rfl, rfl⟩⟩ (Nat.le_of_ble_eq_true rfl) (t_Re_accept (d + 2) fm X s1 t hT1 hR1 (w := 258) (by decide) (by decide) _ rfl) ?_
    rintro _ _ ⟨rfl, s2, rfl, k2, hR2⟩
    show ab_Z m_Re_parseTreaty _ _ _ 12 [_, _, _, _, _, _] [_] _
    rw [← hR2e] at hR2
    have hT2 := hT1.k k2.l.r (KRt.rf t)
    have hD2 := hD1.l k2.l
    have hl2 := k2.lt (k1.lt hl)
    refine ab_go ok_Re_parseTreaty 3 rfl ?_
    show ab_Z m_Re_parseTreaty _ _ _ 15 [_, _, _, _, _, _] [_, _] _
    refine ab_cl ok_Re_parseTreaty rfl [_, _] [] rfl ⟨_, _, rfl, rfl, Or.inl ⟨_, _, rfl, rfl⟩⟩ (Nat.le_of_ble_eq_true rfl) (t_Re_acceptDeed d fm X s2 t hT2 hR2 hl2 hD2.2.1) ?_
    rintro _ _ ⟨y, s3, rfl, rfl, k3, hR3, ⟨l3, hl3⟩, -, hy⟩
    show ab_Z m_Re_parseTreaty _ _ _ 16 [_, _, _, _, _, _] [_] _
    have hT3 := hT2.k k3.r (KRt.rf t)
    have hD3 := hD2.l k3
    obtain ⟨p3, p4⟩ := hR3.pos
    obtain ⟨l4, hl4, hl4e⟩ : ∃ l4, Lt s3 l4 ∧ ∀ a, (bnd R2 fun n => dnT K nm x n (xLt x)) = .inl a → l4 = a.2.2 := by
      cases hq : (bnd R2 fun n => dnT K nm x n (xLt x)) with
      | inr e => exact ⟨l3, hl3, fun a h => by cases h⟩
      | inl a => exact ⟨a.2.2, (hy a hq).2, fun b h => by cases h; rfl⟩
    refine ab_go ok_Re_parseTreaty 6 rfl ?_
    show ab_Z m_Re_parseTreaty _ _ _ 22 [_, _, _, _, _, _] [_, _] _
    rw [p3]
    refine ab_cl ok_Re_parseTreaty rfl [_, _] [] rfl ⟨_, _, rfl, rfl, Or.inl ⟨_, _, rfl, rfl⟩⟩ (Nat.le_of_ble_eq_true rfl) (t_Re_acceptDeed d fm X s3 t hT3 hR3 hl4 hD3.2.1) ?_
    rintro _ _ ⟨z, s4, rfl, rfl, k4, hR4, ⟨l5, hl5⟩, -, hz⟩
    show ab_Z m_Re_parseTreaty _ _ _ 23 [_, _, _, _, _, _] [_] _
    have hD4 := hD3.l k4
    obtain ⟨RP, hRP⟩ : ∃ RP, RP = mpT Prod.fst (bnd R2 fun n => dnT K nm x n (xLt x)) := ⟨_, rfl⟩
    rw [← hRP] at hR3 hR4 hz p3 p4 ⊢
    obtain ⟨l6, hl6, hl6e⟩ : ∃ l6, Lt s4 l6 ∧ ∀ a, (bnd RP fun n => dnT K nm x n l4) = .inl a → l6 = a.2.2 := by
      cases hq : (bnd RP fun n => dnT K nm x n l4) with
      | inr e => exact ⟨l5, hl5, fun a h => by cases h⟩
      | inl a => exact ⟨a.2.2, (hz a hq).2, fun b h => by cases h; rfl⟩
    have hpos : mpT Prod.fst (treT K nm x n0) = mpT Prod.fst (bnd RP fun n => dnT K nm x n l4) := by
      unfold treT
      by_cases h5 : xNt x = 6
      · rw [if_pos h5] at hR2e ⊢
        rw [hRP, hR2e]
        rfl
      · rw [if_neg h5] at hR2e ⊢
        rw [bnd_l] at hR2e
        unfold eatT at hR2e
        rw [if_pos hK0] at hR2e
        rw [← hR2e, hRP]
        cases hq : R2 with
        | inr e => rfl
        | inl n1 =>
          rw [bnd_l, bnd_l]
          cases hq2 : dnT K nm x n1 (xLt x) with
          | inr e => rfl
          | inl a =>
            rw [bnd_l, ← hl4e a (by rw [hq]; exact hq2)]
            show mpT Prod.fst (bnd (dnT K nm x a.1 l4) _) = mpT Prod.fst (dnT K nm x a.1 l4)
            cases dnT K nm x a.1 l4 <;> rfl
    have fin : ∀ s5, (∀ c k, c ≠ 8 → s5 c k = s4 c k) → Rd s5 K (mpT Prod.fst (bnd RP fun n => dnT K nm x n l4)) → (∃ l', Lt s5 l') → (y = z ∧ y ≠ -1 → Lt s5 (ltU l6 3 (posR RP))) → (¬ (y = z ∧ y ≠ -1) → Lt s5 l6) → ab_Z m_Re_parseTreaty (d + 3) (0, 0) Po 34 [some (.ref 8), some (.ref 57), some (.int (nI (xNt x))), some (.int y), some (.int (nI (posR RP))), some (.int z)] [] (HA fm X s5 t) := by
      intro s5 k5 hR5 hl7 ht1 ht2
      obtain ⟨l7, hl7⟩ := hl7
      refine ab_go ok_Re_parseTreaty 6 rfl ?_
      show ab_Z m_Re_parseTreaty _ _ _ 40 [_, _, _, _, _, _] [_, _, _] _
      refine ab_cl ok_Re_parseTreaty rfl [_, _, _] [] rfl rfl (Nat.le_of_ble_eq_true rfl) (t_SF_putX_64 (d + 2) fm X s5 t _ y) ?_
      rintro _ _ ⟨rfl, s6, rfl, k6, hp6⟩
      show ab_Z m_Re_parseTreaty _ _ _ 41 [_, _, _, _, _, _] [] _
      refine ab_go ok_Re_parseTreaty 8 rfl ?_
      show ab_Z m_Re_parseTreaty _ _ _ 49 [_, _, _, _, _, _] [_, _, _] _
      refine ab_cl ok_Re_parseTreaty rfl [_, _, _] [] rfl rfl (Nat.le_of_ble_eq_true rfl) (t_SF_putX_64 (d + 2) fm X s6 t _ z) ?_
      rintro _ _ ⟨rfl, s7, rfl, k7, hp7⟩
      show ab_Z m_Re_parseTreaty _ _ _ 50 [_, _, _, _, _, _] [] _
      refine ab_go ok_Re_parseTreaty 5 rfl ?_
      show ab_Z m_Re_parseTreaty _ _ _ 55 [_, _, _, _, _, _] [_, _, _] _
      refine ab_cl ok_Re_parseTreaty rfl [_, _] [_] rfl rfl (Nat.le_of_ble_eq_true rfl) (t_JM_min (d + 2) _ _ _) ?_
      rintro _ _ ⟨rfl, rfl⟩
      show ab_Z m_Re_parseTreaty _ _ _ 56 [_, _, _, _, _, _] [_, _] _
      rw [show (if (6 : Int32) < nI (xNt x) + 1 then (6 : Int32) else nI (xNt x) + 1) = nI (if xNt x < 6 then xNt x + 1 else 6) from min_n (m := 6) (by omega) (by decide)]
      refine ab_go ok_Re_parseTreaty 1 rfl ?_
      show ab_Z m_Re_parseTreaty _ _ _ 57 [_, _, _, _, _, _] [] _
      have e8 : ∀ k, ab_up s7 57 13 (nI (if xNt x < 6 then xNt x + 1 else 6)) 8 k = s5 8 k := fun k => by rw [ab_up_o (by decide), k7 8 (by decide), k6 8 (by decide)]
      have fin : Po none (HA fm X (ab_up s7 57 13 (nI (if xNt x < 6 then xNt x + 1 else 6))) t) := by
        rw [← hPo]
        refine ⟨rfl, _, _, rfl, fun c k h1 h2 => ?_, KRt.rf t, ?_, ⟨l7, hl7.of (e8 4) (e8 5)⟩, fun a ha => ?_⟩
        · rw [ab_up_o (by omega), k7 c (by omega), k6 c (by omega), k5 c k h1, k4 c k h1, k3 c k h1, k2 c k (fun z => h1 z.1), k1 c k (fun z => h1 z.1)]
        · rw [hpos]
          exact hR5.of (e8 1) (e8 2) (e8 3)
        · unfold treT at ha
          by_cases h5 : xNt x = 6
          · rw [if_pos h5] at ha; cases ha
          · rw [if_neg h5] at ha
            have hlt : xNt x < 6 := by omega
            rw [if_neg h5, bnd_l] at hR2e
            unfold eatT at hR2e
            rw [if_pos hK0] at hR2e
            obtain ⟨n1, q1, q2⟩ := bnd_in ha
            rw [q1] at hR2e
            obtain ⟨a1, q3, q4⟩ := bnd_in q2
            have hI : (bnd R2 fun n => dnT K nm x n (xLt x)) = .inl a1 := by rw [hR2e]; exact q3
            rw [← hl4e a1 hI] at q4
            obtain ⟨b1, q5, q6⟩ := bnd_in q4
            cases q6
            have hRPe : RP = .inl a1.1 := by rw [hRP, hI]; rfl
            have hV : (bnd RP fun n => dnT K nm x n l4) = .inl b1 := by rw [hRPe]; exact q5
            have g1 := (hy a1 hI).1
            have g2 := (hz b1 hV).1
            have g3 := hl6e b1 hV
            rw [hRPe, show posR (.inl a1.1) = a1.1 from rfl] at ht1
            rw [g1, g2, g3] at ht1 ht2
            have u6 := hp6 (2 * xNt x) (by omega) (by rw [show (2 : Int32) = nI 2 from rfl, pk_mul, Nat.mul_comm])
            have u7 := hp7 (2 * xNt x + 1) (by omega) (by rw [show (2 : Int32) = nI 2 from rfl, pk_mul, ← nI_succ, Nat.mul_comm])
            have hlate : Lt s5 (if a1.2.1 = b1.2.1 ∧ a1.2.1 ≠ -1 then ltU b1.2.2 3 a1.1 else b1.2.2) := by
              by_cases hq : a1.2.1 = b1.2.1 ∧ a1.2.1 ≠ -1
              · rw [if_pos hq]; exact ht1 hq
              · rw [if_neg hq]; exact ht2 hq
            refine ⟨?_, hlate.of (e8 4) (e8 5)⟩
            have rw5 : ∀ c k, c ≠ 8 → c ≠ 64 → ¬ (c = 57 ∧ k = 13) → ab_up s7 57 13 (nI (if xNt x < 6 then xNt x + 1 else 6)) c k = s4 c k := fun c k h1 h2 h4 => by
              by_cases h57 : c = 57
              · subst h57
                rw [ab_up_n (fun z => h4 ⟨rfl, z⟩), k7 57 (by decide), k6 57 (by decide), k5 57 k (by decide)]
              · rw [ab_up_o h57, k7 c h2, k6 c h2, k5 c k h1]
            have rwr : ∀ c, c ≠ 8 → c ≠ 64 → c ≠ 57 → ab_up s7 57 13 (nI (if xNt x < 6 then xNt x + 1 else 6)) c = s4 c := fun c h1 h2 h4 => funext fun k => rw5 c k h1 h2 (fun z => h4 z.1)
            refine ⟨hD4.1.of (rw5 57 11 (by decide) (by decide) (by decide)) (rwr 59 (by decide) (by decide) (by decide)) (rwr 60 (by decide) (by decide) (by decide)) rfl, hD4.2.1.of (rw5 57 12 (by decide) (by decide) (by decide)) (rwr 62 (by decide) (by decide) (by decide)) (rwr 63 (by decide) (by decide) (by decide)) rfl, ⟨by rw [ab_up_s, if_pos hlt], show xNt x + 1 ≤ 6 by omega, fun j hj => ?_⟩, hD4.2.2.2.1.of (rw5 57 14 (by decide) (by decide) (by decide)) (rw5 57 15 (by decide) (by decide) (by decide)), hD4.2.2.2.2.of (fun c h1 h2 => rwr c (by omega) (by omega) (by omega))⟩
            have hj' : j < 2 * (xNt x + 1) := hj
            show ab_up s7 57 13 (nI (if xNt x < 6 then xNt x + 1 else 6)) 64 j = updN (updN (xTr x) (2 * xNt x) a1.2.1) (2 * xNt x + 1) b1.2.1 j
            rw [ab_up_o (by decide), u7, u6]
            unfold updN
            by_cases h1 : j = 2 * xNt x + 1
            · rw [if_pos h1, h1, ab_up_s, g2]
            · rw [if_neg h1, ab_up_n h1]
              by_cases h2 : j = 2 * xNt x
              · rw [if_pos h2, h2, ab_up_s, g1]
              · rw [if_neg h2, ab_up_n h2, k5 64 j (by decide)]
                exact hD4.2.2.1.2.2 j (show j < 2 * xNt x by omega)
      exact ab_rV ok_Re_parseTreaty rfl (fin)
    refine ab_go ok_Re_parseTreaty 3 rfl ?_
    show ab_Z m_Re_parseTreaty _ _ _ 26 [_, _, _, _, _, _] [_, _] _
    refine ab_br ok_Re_parseTreaty rfl rfl ?_ ?_
    · intro h1
      show ab_Z m_Re_parseTreaty _ _ _ 27 [_, _, _, _, _, _] [] _
      refine ab_go ok_Re_parseTreaty 2 rfl ?_
      show ab_Z m_Re_parseTreaty _ _ _ 29 [_, _, _, _, _, _] [_, _] _
      refine ab_br ok_Re_parseTreaty rfl rfl ?_ ?_
      · intro h2
        show ab_Z m_Re_parseTreaty _ _ _ 34 [_, _, _, _, _, _] [] _
        exact fin s4 (fun _ _ _ => rfl) hR4 ⟨l5, hl5⟩ (fun z => absurd h2 z.2) (fun _ => hl6)
      · intro h2
        show ab_Z m_Re_parseTreaty _ _ _ 30 [_, _, _, _, _, _] [] _
        refine ab_go ok_Re_parseTreaty 3 rfl ?_
        show ab_Z m_Re_parseTreaty _ _ _ 33 [_, _, _, _, _, _] [_, _, _] _
        refine ab_cl ok_Re_parseTreaty rfl [_, _, _] [] rfl ⟨_, _, rfl, rfl, Or.inl ⟨_, _, rfl, rfl⟩⟩ (Nat.le_of_ble_eq_true rfl) (t_Re_failLate (d + 2) fm X s4 t hl6 (c := 3) (by decide) (by decide) p4 _ _ rfl rfl) ?_
        rintro _ _ ⟨rfl, s5, rfl, k5, hl7⟩
        show ab_Z m_Re_parseTreaty _ _ _ 34 [_, _, _, _, _, _] [] _
        exact fin s5 (fun c k h => k5 c k (fun z => h z.1)) (hR4.of (k5 8 1 (by omega)) (k5 8 2 (by omega)) (k5 8 3 (by omega))) ⟨_, hl7⟩ (fun _ => hl7) (fun z => absurd ⟨h1, h2⟩ z)
    · intro h1
      show ab_Z m_Re_parseTreaty _ _ _ 34 [_, _, _, _, _, _] [] _
      exact fin s4 (fun _ _ _ => rfl) hR4 ⟨l5, hl5⟩ (fun z => absurd z.1 h1) (fun _ => hl6)
  refine ab_T_of (M := m_Re_parseTreaty) rfl rfl (Nat.le_of_ble_eq_true rfl) ?_
  show ab_Z m_Re_parseTreaty _ _ _ 0 [_, _, _, _, _, _] [] _
  refine ab_go ok_Re_parseTreaty 5 rfl ?_
  show ab_Z m_Re_parseTreaty _ _ _ 5 [_, _, _, _, _, _] [_, _] _
  rw [hnI]
  refine ab_br ok_Re_parseTreaty rfl rfl ?_ ?_
  · intro h1
    show ab_Z m_Re_parseTreaty _ _ _ 6 [_, _, _, _, _, _] [] _
    have h1' := (nI_eq (b := 6) (show xNt x < 2 ^ 31 by omega) (by decide)).mp h1
    refine ab_go ok_Re_parseTreaty 2 rfl ?_
    show ab_Z m_Re_parseTreaty _ _ _ 8 [_, _, _, _, _, _] [_, _] _
    refine ab_cl ok_Re_parseTreaty rfl [_, _] [] rfl ⟨_, _, rfl, rfl, Or.inl ⟨_, _, rfl, rfl⟩⟩ (Nat.le_of_ble_eq_true rfl) (t_Re_fail (d + 2) fm X s t hR (c := 2) (by omega) _ rfl) ?_
    rintro _ _ ⟨rfl, s1, rfl, k1, hR1⟩
    show ab_Z m_Re_parseTreaty _ _ _ 9 [_, _, _, _, _, _] [] _
    exact main s1 k1 (by rw [if_pos h1']; exact hR1)
  · intro h1
    show ab_Z m_Re_parseTreaty _ _ _ 9 [_, _, _, _, _, _] [] _
    have h1' : ¬ xNt x = 6 := fun z => h1 (by rw [z]; rfl)
    exact main s (KA.rf s) (by rw [if_neg h1']; exact hR)
end

