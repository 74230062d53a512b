section
variable (fm : Value) (X : Nat × (Nat → Int32)) (t : Nat → Nat → Int64)
variable {K P v : Nat → Nat} {nm : Nat → List Nat}
theorem t_Re_parseUnit_65 {D r : Nat} (hr : r ≤ 6) (hs : r ≠ 0 → CtL g_Re_parseSum 65 (D + 1) fm X t K P v nm (nI (6 - r) + 1) (lvT K oA (lvT K oM (unT K v (r - 1))))) : CtL g_Re_parseUnit 65 (D + 2) fm X t K P v nm (nI (6 - r)) (unT K v r) := by
  intro s R Q hT hR hQ hZ
  generalize hPo : PLw fm X s t K 65 Q (bnd R (unT K v r)) = Po
  cases R with
  | inr e =>
    obtain ⟨a1, a2, a3, a4⟩ := hR
    refine ab_T_of (M := m_Re_parseUnit) rfl rfl (Nat.le_of_ble_eq_true rfl) ?_
    show ab_Z m_Re_parseUnit _ _ _ 0 [_, _, _] [] _
    refine ab_go ok_Re_parseUnit 2 rfl ?_
    show ab_Z m_Re_parseUnit _ _ _ 2 [_, _, _] [_] _
    rw [a2]
    refine ab_br ok_Re_parseUnit rfl rfl ?_ ?_
    · intro h1
      show ab_Z m_Re_parseUnit _ _ _ 4 [_, _, _] [] _
      exact absurd h1 (nI_ne0 (by omega) (by omega))
    · intro h1
      show ab_Z m_Re_parseUnit _ _ _ 3 [_, _, _] [] _
      have fin : Po none (HA fm X s t) := by
        rw [← hPo]
        exact ⟨rfl, s, rfl, KS.rf 65 s, ⟨a1, a2, a3, a4⟩, hZ, fun q hq => by cases hq⟩
      exact ab_rV ok_Re_parseUnit rfl (fin)
  | inl n =>
    have hR0 := hR
    obtain ⟨a1, a2, a3, a4⟩ := hR
    obtain ⟨hL, hlen⟩ := hQ n rfl
    rw [bnd_l] at hPo
    have hKn := hT.2.1 n
    have hun : ∃ p, unT K v r n = unA K v n p ∧ (r = 0 → p = .inr (2, n)) ∧ (r ≠ 0 → p = bnd (goT n) fun t1 => bnd (lvT K oA (lvT K oM (unT K v (r - 1))) t1) fun q => bnd (eatT K 41 q.1) fun t2 => .inl (t2, q.2)) := by
      cases r with
      | zero => exact ⟨_, rfl, fun _ => rfl, fun h => absurd rfl h⟩
      | succ r => exact ⟨_, rfl, fun h => by omega, fun _ => rfl⟩
    obtain ⟨pp, hp1, hp2, hp3⟩ := hun
    rw [hp1] at hPo
    unfold unA at hPo
    have e8 : ∀ z e j, adL s 65 z e 8 j = s 8 j := fun z e j => by
      unfold adL
      split
      · rw [ab_up_o (by decide), ab_up_o (by decide)]
      · rfl
    have eat1 : ∀ (q : Ins) (F : Rs (Nat × List Ins)), F = (bnd (goT n) fun t1 => .inl (t1, [q])) → PLw fm X s t K 65 Q F = Po → ∀ s2, KA (adL s 65 Q.length (encI q)) s2 → Rd s2 K (goT n) → Po none (HA fm X s2 t) := by
      intro q F hFe hPF s2 k2 hR2
      rw [← hPF]
      refine ⟨rfl, s2, rfl, (adL_k s 65 Q.length (encI q)).tr k2.s, ?_, k2.z (by decide) (adL_z (by omega) hL.1), fun q2 hq2 => ?_⟩
      · rw [hFe]
        cases hg : goT n with
        | inr e => rw [hg] at hR2; exact hR2
        | inl t1 => rw [hg] at hR2; exact hR2
      · rw [hFe] at hq2
        obtain ⟨t1, b1, b2⟩ := bnd_in hq2
        cases b2
        have c1 : n < t1 ∧ t1 ≤ 400 := (go_st a4.1).1 t1 b1
        exact k2.c (by decide) (adL_c (by omega) hL)
    refine ab_T_of (M := m_Re_parseUnit) rfl rfl (Nat.le_of_ble_eq_true rfl) ?_
    show ab_Z m_Re_parseUnit _ _ _ 0 [_, _, _] [] _
    refine ab_go ok_Re_parseUnit 2 rfl ?_
    show ab_Z m_Re_parseUnit _ _ _ 2 [_, _, _] [_] _
    rw [a3]
    refine ab_go ok_Re_parseUnit 1 rfl ?_
    show ab_Z m_Re_parseUnit _ _ _ 4 [_, _, _] [] _
    refine ab_go ok_Re_parseUnit 3 rfl ?_
    show ab_Z m_Re_parseUnit _ _ _ 7 [_, _, _] [_, _] _
    rw [a2]
    refine ab_br ok_Re_parseUnit rfl rfl ?_ ?_
    · intro h1
      show ab_Z m_Re_parseUnit _ _ _ 8 [_, _, _] [] _
      have h1' : K n = 3 := (nI_eq (b := 3) (by omega) (by decide)).mp h1
      rw [if_pos h1'] at hPo
      refine ab_go ok_Re_parseUnit 5 rfl ?_
      show ab_Z m_Re_parseUnit _ _ _ 13 [_, _, _] [_, _, _] _
      rw [a1]
      refine ab_cl ok_Re_parseUnit rfl [_, _] [_] rfl ⟨_, _, rfl, rfl, Or.inl ⟨_, _, rfl, rfl⟩⟩ (Nat.le_of_ble_eq_true rfl) (t_To_valueAt (D + 1) fm X s t a4.1) ?_
      rintro _ _ ⟨rfl, rfl⟩
      show ab_Z m_Re_parseUnit _ _ _ 14 [_, _, _] [_, _] _
      rw [(hT.1 n a4).2.2.1 h1']
      refine ab_go ok_Re_parseUnit 1 rfl ?_
      show ab_Z m_Re_parseUnit _ _ _ 15 [_, _, _] [_, _] _
      rw [lN_i]
      refine ab_cl ok_Re_parseUnit rfl [_, _] [] rfl ⟨_, _, rfl, rfl, Or.inl ⟨_, _, rfl, rfl⟩⟩ (Nat.le_of_ble_eq_true rfl) (t_La_add_65 (D + 1) fm X s t (show Q.length ≤ 400 by omega) hL.1 _) ?_
      rintro _ _ ⟨rfl, rfl⟩
      show ab_Z m_Re_parseUnit _ _ _ 16 [_, _, _] [] _
      refine ab_go ok_Re_parseUnit 2 rfl ?_
      show ab_Z m_Re_parseUnit _ _ _ 18 [_, _, _] [_, _] _
      have hR1 : Rd (adL s 65 Q.length (nI (v n))) K (.inl n) := hR0.of (e8 _ _ 1) (e8 _ _ 2) (e8 _ _ 3)
      refine ab_cl ok_Re_parseUnit rfl [_, _] [] rfl ⟨_, _, rfl, rfl, Or.inl ⟨_, _, rfl, rfl⟩⟩ (Nat.le_of_ble_eq_true rfl) (t_Re_accept (D + 1) fm X _ t (hT.k ((adL_k s 65 Q.length (nI (v n))).r (by decide)) (KRt.rf t)) hR1 (w := 3) (by decide) (by decide) _ rfl) ?_
      rintro _ _ ⟨rfl, s2, rfl, k2, hR2⟩
      show ab_Z m_Re_parseUnit _ _ _ 19 [_, _, _] [_] _
      rw [bnd_l] at hR2
      unfold eatT at hR2
      rw [if_pos h1'] at hR2
      refine ab_go ok_Re_parseUnit 2 rfl ?_
      show ab_Z m_Re_parseUnit _ _ _ 65 [_, _, _] [] _
      exact ab_rV ok_Re_parseUnit rfl (eat1 (0, v n) _ rfl hPo s2 k2 hR2)
    · intro h1
      show ab_Z m_Re_parseUnit _ _ _ 21 [_, _, _] [] _
      have h1' : ¬ K n = 3 := fun z => h1 (by rw [z]; rfl)
      rw [if_neg h1'] at hPo
      refine ab_go ok_Re_parseUnit 3 rfl ?_
      show ab_Z m_Re_parseUnit _ _ _ 24 [_, _, _] [_, _] _
      rw [a2]
      refine ab_br ok_Re_parseUnit rfl rfl ?_ ?_
      · intro h2
        show ab_Z m_Re_parseUnit _ _ _ 36 [_, _, _] [] _
        have h2' : ¬ 268 ≤ K n := by
          have := (nI_ltI (show K n < 2 ^ 31 by omega) (show 268 < 2 ^ 31 by decide)).mp h2
          omega
        rw [if_neg h2'] at hPo
        refine ab_go ok_Re_parseUnit 3 rfl ?_
        show ab_Z m_Re_parseUnit _ _ _ 39 [_, _, _] [_, _] _
        rw [a2]
        refine ab_br ok_Re_parseUnit rfl rfl ?_ ?_
        · intro h3
          show ab_Z m_Re_parseUnit _ _ _ 44 [_, _, _] [] _
          have h3' : K n = 40 := (nI_eq (b := 40) (by omega) (by decide)).mp h3
          rw [if_pos h3'] at hPo
          refine ab_go ok_Re_parseUnit 2 rfl ?_
          show ab_Z m_Re_parseUnit _ _ _ 46 [_, _, _] [_, _] _
          refine ab_br ok_Re_parseUnit rfl rfl ?_ ?_
          · intro h4
            show ab_Z m_Re_parseUnit _ _ _ 51 [_, _, _] [] _
            have hr0 : r ≠ 0 := by
              have := (nI_ltI (show 6 - r < 2 ^ 31 by omega) (show 6 < 2 ^ 31 by decide)).mp h4
              omega
            rw [hp3 hr0] at hPo
            refine ab_go ok_Re_parseUnit 2 rfl ?_
            show ab_Z m_Re_parseUnit _ _ _ 53 [_, _, _] [_, _] _
            refine ab_cl ok_Re_parseUnit rfl [_, _] [] rfl ⟨_, _, rfl, rfl, Or.inl ⟨_, _, rfl, rfl⟩⟩ (Nat.le_of_ble_eq_true rfl) (t_Re_accept (D + 1) fm X s t hT hR0 (w := 40) (by decide) (by decide) _ rfl) ?_
            rintro _ _ ⟨rfl, s1, rfl, k1, hR1⟩
            show ab_Z m_Re_parseUnit _ _ _ 54 [_, _, _] [_] _
            rw [show bnd (.inl n : Rs Nat) (eatT K 40) = goT n from by rw [bnd_l]; unfold eatT; rw [if_pos h3']] at hR1
            have hT1 := hT.k k1.l.r (KRt.rf t)
            have hgo := go_st a4.1
            refine ab_go ok_Re_parseUnit 6 rfl ?_
            show ab_Z m_Re_parseUnit _ _ _ 60 [_, _, _] [_, _, _] _
            refine ab_cl ok_Re_parseUnit rfl [_, _, _] [] rfl ⟨_, _, rfl, rfl, Or.inl ⟨_, _, rfl, rfl⟩⟩ (Nat.le_of_ble_eq_true rfl) (hs hr0 s1 (goT n) Q hT1 hR1 (fun m hm => ⟨k1.c (by decide) hL, by have h9 : n < m := (hgo.1 m hm).1; omega⟩) (k1.z (by decide) hZ)) ?_
            rintro _ _ ⟨rfl, s2, rfl, k2, hR2, hZ2, hq2⟩
            show ab_Z m_Re_parseUnit _ _ _ 61 [_, _, _] [] _
            have hT2 := hT1.k (k2.r (by decide)) (KRt.rf t)
            refine ab_go ok_Re_parseUnit 2 rfl ?_
            show ab_Z m_Re_parseUnit _ _ _ 63 [_, _, _] [_, _] _
            refine ab_cl ok_Re_parseUnit rfl [_, _] [] rfl ⟨_, _, rfl, rfl, Or.inl ⟨_, _, rfl, rfl⟩⟩ (Nat.le_of_ble_eq_true rfl) (t_Re_accept (D + 1) fm X s2 t hT2 hR2 (w := 41) (by decide) (by decide) _ rfl) ?_
            rintro _ _ ⟨rfl, s3, rfl, k3, hR3⟩
            show ab_Z m_Re_parseUnit _ _ _ 64 [_, _, _] [_] _
            refine ab_go ok_Re_parseUnit 1 rfl ?_
            show ab_Z m_Re_parseUnit _ _ _ 65 [_, _, _] [] _
            have fin : Po none (HA fm X s3 t) := by
              rw [← hPo]
              refine ⟨rfl, s3, rfl, (k1.s.tr k2).tr k3.s, ?_, k3.z (by decide) hZ2, fun q hq => ?_⟩
              · have e1 : mpT Prod.fst (bnd (goT n) fun t1 => bnd (lvT K oA (lvT K oM (unT K v (r - 1))) t1) fun q => bnd (eatT K 41 q.1) fun t2 => (.inl (t2, q.2) : Rs (Nat × List Ins))) = bnd (mpT Prod.fst (bnd (goT n) (lvT K oA (lvT K oM (unT K v (r - 1)))))) (eatT K 41) := by
                  cases goT n with
                  | inr e => rfl
                  | inl t1 =>
                    simp only [bnd_l]
                    cases lvT K oA (lvT K oM (unT K v (r - 1))) t1 with
                    | inr e => rfl
                    | inl q =>
                      simp only [bnd_l]
                      cases eatT K 41 q.1 <;> rfl
                rw [e1]
                exact hR3
              · obtain ⟨t1, b1, b2⟩ := bnd_in hq
                obtain ⟨q1, b3, b4⟩ := bnd_in b2
                obtain ⟨t2, b5, b6⟩ := bnd_in b4
                cases b6
                exact k3.c (by decide) (hq2 q1 (by rw [b1, bnd_l]; exact b3))
            exact ab_rV ok_Re_parseUnit rfl (fin)
          · intro h4
            show ab_Z m_Re_parseUnit _ _ _ 47 [_, _, _] [] _
            have hr0 : r = 0 := by
              rcases Nat.eq_zero_or_pos r with h | h
              · exact h
              · exact absurd ((nI_ltI (show 6 - r < 2 ^ 31 by omega) (show 6 < 2 ^ 31 by decide)).mpr (by omega)) h4
            rw [hp2 hr0] at hPo
            refine ab_go ok_Re_parseUnit 2 rfl ?_
            show ab_Z m_Re_parseUnit _ _ _ 49 [_, _, _] [_, _] _
            refine ab_cl ok_Re_parseUnit rfl [_, _] [] rfl ⟨_, _, rfl, rfl, Or.inl ⟨_, _, rfl, rfl⟩⟩ (Nat.le_of_ble_eq_true rfl) (t_Re_fail (D + 1) fm X s t hR0 (c := 2) (by omega) _ rfl) ?_
            rintro _ _ ⟨rfl, s1, rfl, k1, hR1⟩
            show ab_Z m_Re_parseUnit _ _ _ 50 [_, _, _] [] _
            refine ab_go ok_Re_parseUnit 1 rfl ?_
            show ab_Z m_Re_parseUnit _ _ _ 65 [_, _, _] [] _
            have fin : Po none (HA fm X s1 t) := by
              rw [← hPo]
              exact ⟨rfl, s1, rfl, k1.s, hR1, k1.z (by decide) hZ, fun q hq => by cases hq⟩
            exact ab_rV ok_Re_parseUnit rfl (fin)
        · intro h3
          show ab_Z m_Re_parseUnit _ _ _ 40 [_, _, _] [] _
          have h3' : ¬ K n = 40 := fun z => h3 (by rw [z]; rfl)
          rw [if_neg h3'] at hPo
          refine ab_go ok_Re_parseUnit 2 rfl ?_
          show ab_Z m_Re_parseUnit _ _ _ 42 [_, _, _] [_, _] _
          refine ab_cl ok_Re_parseUnit rfl [_, _] [] rfl ⟨_, _, rfl, rfl, Or.inl ⟨_, _, rfl, rfl⟩⟩ (Nat.le_of_ble_eq_true rfl) (t_Re_fail (D + 1) fm X s t hR0 (c := 1) (by omega) _ rfl) ?_
          rintro _ _ ⟨rfl, s1, rfl, k1, hR1⟩
          show ab_Z m_Re_parseUnit _ _ _ 43 [_, _, _] [] _
          refine ab_go ok_Re_parseUnit 1 rfl ?_
          show ab_Z m_Re_parseUnit _ _ _ 65 [_, _, _] [] _
          have fin : Po none (HA fm X s1 t) := by
            rw [← hPo]
            exact ⟨rfl, s1, rfl, k1.s, hR1, k1.z (by decide) hZ, fun q hq => by cases hq⟩
          exact ab_rV ok_Re_parseUnit rfl (fin)
      · intro h2
        show ab_Z m_Re_parseUnit _ _ _ 25 [_, _, _] [] _
        have h2' : 268 ≤ K n := by
          rcases Nat.lt_or_ge (K n) 268 with h | h
          · exact absurd ((nI_ltI (show K n < 2 ^ 31 by omega) (show 268 < 2 ^ 31 by decide)).mpr h) h2
          · exact h
        rw [if_pos h2'] at hPo
        have henc : -nI (K n) = encI (1, K n - 268) := by
          show _ = -nI (268 + (K n - 268))
          rw [show 268 + (K n - 268) = K n by omega]
        refine ab_go ok_Re_parseUnit 4 rfl ?_
        show ab_Z m_Re_parseUnit _ _ _ 29 [_, _, _] [_, _] _
        rw [a2]
        refine ab_cl ok_Re_parseUnit rfl [_, _] [] rfl ⟨_, _, rfl, rfl, Or.inl ⟨_, _, rfl, rfl⟩⟩ (Nat.le_of_ble_eq_true rfl) (t_La_add_65 (D + 1) fm X s t (show Q.length ≤ 400 by omega) hL.1 _) ?_
        rintro _ _ ⟨rfl, rfl⟩
        show ab_Z m_Re_parseUnit _ _ _ 30 [_, _, _] [] _
        refine ab_go ok_Re_parseUnit 3 rfl ?_
        show ab_Z m_Re_parseUnit _ _ _ 33 [_, _, _] [_, _] _
        have hR1 : Rd (adL s 65 Q.length (-nI (K n))) K (.inl n) := hR0.of (e8 _ _ 1) (e8 _ _ 2) (e8 _ _ 3)
        rw [show adL s 65 Q.length (-nI (K n)) 8 2 = nI (K n) from by rw [e8]; exact a2]
        refine ab_cl ok_Re_parseUnit rfl [_, _] [] rfl ⟨_, _, rfl, rfl, Or.inl ⟨_, _, rfl, rfl⟩⟩ (Nat.le_of_ble_eq_true rfl) (t_Re_accept (D + 1) fm X _ t (hT.k ((adL_k s 65 Q.length (-nI (K n))).r (by decide)) (KRt.rf t)) hR1 (w := K n) (by omega) (by omega) _ rfl) ?_
        rintro _ _ ⟨rfl, s2, rfl, k2, hR2⟩
        show ab_Z m_Re_parseUnit _ _ _ 34 [_, _, _] [_] _
        rw [bnd_l] at hR2
        unfold eatT at hR2
        rw [if_pos rfl] at hR2
        rw [henc] at k2
        refine ab_go ok_Re_parseUnit 2 rfl ?_
        show ab_Z m_Re_parseUnit _ _ _ 65 [_, _, _] [] _
        exact ab_rV ok_Re_parseUnit rfl (eat1 (1, K n - 268) _ rfl hPo s2 k2 hR2)
theorem t_exp_65 : ∀ r, r ≤ 6 → ∀ d, CtL g_Re_parseUnit 65 (d + 3 * r + 2) fm X t K P v nm (nI (6 - r)) (unT K v r) ∧ CtL g_Re_parseSum 65 (d + 3 * r + 4) fm X t K P v nm (nI (6 - r)) (smT K v r)
  | 0, _, d => by
    have h1 := t_Re_parseUnit_65 fm X t (K := K) (P := P) (v := v) (nm := nm) (D := d) (r := 0) (by decide) (fun h => absurd rfl h)
    have h2 := t_Re_parseProduct_65 fm X t (D := d + 1) (unT_st K v 0) h1
    exact ⟨h1, t_Re_parseSum_65 fm X t (D := d + 2) (lvT_st (unT_st K v 0)) h2⟩
  | r + 1, hr, d => by
    have ih := (t_exp_65 r (by omega) d).2
    have hs : CtL g_Re_parseSum 65 (d + 3 * r + 3 + 1) fm X t K P v nm (nI (6 - (r + 1)) + 1) (lvT K oA (lvT K oM (unT K v (r + 1 - 1)))) := by
      rw [← nI_succ, show 6 - (r + 1) + 1 = 6 - r by omega]
      exact ih
    have h1 := t_Re_parseUnit_65 fm X t (K := K) (P := P) (v := v) (nm := nm) (D := d + 3 * r + 3) (r := r + 1) hr (fun _ => hs)
    have h2 := t_Re_parseProduct_65 fm X t (D := d + 3 * r + 4) (unT_st K v (r + 1)) h1
    exact ⟨h1, t_Re_parseSum_65 fm X t (D := d + 3 * r + 5) (lvT_st (unT_st K v (r + 1))) h2⟩
theorem t_Re_parseUnit_69 {D r : Nat} (hr : r ≤ 6) (hs : r ≠ 0 → CtL g_Re_parseSum 69 (D + 1) fm X t K P v nm (nI (6 - r) + 1) (lvT K oA (lvT K oM (unT K v (r - 1))))) : CtL g_Re_parseUnit 69 (D + 2) fm X t K P v nm (nI (6 - r)) (unT K v r) := by
  intro s R Q hT hR hQ hZ
  generalize hPo : PLw fm X s t K 69 Q (bnd R (unT K v r)) = Po
  cases R with
  | inr e =>
    obtain ⟨a1, a2, a3, a4⟩ := hR
    refine ab_T_of (M := m_Re_parseUnit) rfl rfl (Nat.le_of_ble_eq_true rfl) ?_
    show ab_Z m_Re_parseUnit _ _ _ 0 [_, _, _] [] _
    refine ab_go ok_Re_parseUnit 2 rfl ?_
    show ab_Z m_Re_parseUnit _ _ _ 2 [_, _, _] [_] _
    rw [a2]
    refine ab_br ok_Re_parseUnit rfl rfl ?_ ?_
    · intro h1
      show ab_Z m_Re_parseUnit _ _ _ 4 [_, _, _] [] _
      exact absurd h1 (nI_ne0 (by omega) (by omega))
    · intro h1
      show ab_Z m_Re_parseUnit _ _ _ 3 [_, _, _] [] _
      have fin : Po none (HA fm X s t) := by
        rw [← hPo]
        exact ⟨rfl, s, rfl, KS.rf 69 s, ⟨a1, a2, a3, a4⟩, hZ, fun q hq => by cases hq⟩
      exact ab_rV ok_Re_parseUnit rfl (fin)
  | inl n =>
    have hR0 := hR
    obtain ⟨a1, a2, a3, a4⟩ := hR
    obtain ⟨hL, hlen⟩ := hQ n rfl
    rw [bnd_l] at hPo
    have hKn := hT.2.1 n
    have hun : ∃ p, unT K v r n = unA K v n p ∧ (r = 0 → p = .inr (2, n)) ∧ (r ≠ 0 → p = bnd (goT n) fun t1 => bnd (lvT K oA (lvT K oM (unT K v (r - 1))) t1) fun q => bnd (eatT K 41 q.1) fun t2 => .inl (t2, q.2)) := by
      cases r with
      | zero => exact ⟨_, rfl, fun _ => rfl, fun h => absurd rfl h⟩
      | succ r => exact ⟨_, rfl, fun h => by omega, fun _ => rfl⟩
    obtain ⟨pp, hp1, hp2, hp3⟩ := hun
    rw [hp1] at hPo
    unfold unA at hPo
    have e8 : ∀ z e j, adL s 69 z e 8 j = s 8 j := fun z e j => by
      unfold adL
      split
      · rw [ab_up_o (by decide), ab_up_o (by decide)]
      · rfl
    have eat1 : ∀ (q : Ins) (F : Rs (Nat × List Ins)), F = (bnd (goT n) fun t1 => .inl (t1, [q])) → PLw fm X s t K 69 Q F = Po → ∀ s2, KA (adL s 69 Q.length (encI q)) s2 → Rd s2 K (goT n) → Po none (HA fm X s2 t) := by
      intro q F hFe hPF s2 k2 hR2
      rw [← hPF]
      refine ⟨rfl, s2, rfl, (adL_k s 69 Q.length (encI q)).tr k2.s, ?_, k2.z (by decide) (adL_z (by omega) hL.1), fun q2 hq2 => ?_⟩
      · rw [hFe]
        cases hg : goT n with
        | inr e => rw [hg] at hR2; exact hR2
        | inl t1 => rw [hg] at hR2; exact hR2
      · rw [hFe] at hq2
        obtain ⟨t1, b1, b2⟩ := bnd_in hq2
        cases b2
        have c1 : n < t1 ∧ t1 ≤ 400 := (go_st a4.1).1 t1 b1
        exact k2.c (by decide) (adL_c (by omega) hL)
    refine ab_T_of (M := m_Re_parseUnit) rfl rfl (Nat.le_of_ble_eq_true rfl) ?_
    show ab_Z m_Re_parseUnit _ _ _ 0 [_, _, _] [] _
    refine ab_go ok_Re_parseUnit 2 rfl ?_
    show ab_Z m_Re_parseUnit _ _ _ 2 [_, _, _] [_] _
    rw [a3]
    refine ab_go ok_Re_parseUnit 1 rfl ?_
    show ab_Z m_Re_parseUnit _ _ _ 4 [_, _, _] [] _
    refine ab_go ok_Re_parseUnit 3 rfl ?_
    show ab_Z m_Re_parseUnit _ _ _ 7 [_, _, _] [_, _] _
    rw [a2]
    refine ab_br ok_Re_parseUnit rfl rfl ?_ ?_
    · intro h1
      show ab_Z m_Re_parseUnit _ _ _ 8 [_, _, _] [] _
      have h1' : K n = 3 := (nI_eq (b := 3) (by omega) (by decide)).mp h1
      rw [if_pos h1'] at hPo
      refine ab_go ok_Re_parseUnit 5 rfl ?_
      show ab_Z m_Re_parseUnit _ _ _ 13 [_, _, _] [_, _, _] _
      rw [a1]
      refine ab_cl ok_Re_parseUnit rfl [_, _] [_] rfl ⟨_, _, rfl, rfl, Or.inl ⟨_, _, rfl, rfl⟩⟩ (Nat.le_of_ble_eq_true rfl) (t_To_valueAt (D + 1) fm X s t a4.1) ?_
      rintro _ _ ⟨rfl, rfl⟩
      show ab_Z m_Re_parseUnit _ _ _ 14 [_, _, _] [_, _] _
      rw [(hT.1 n a4).2.2.1 h1']
      refine ab_go ok_Re_parseUnit 1 rfl ?_
      show ab_Z m_Re_parseUnit _ _ _ 15 [_, _, _] [_, _] _
      rw [lN_i]
      refine ab_cl ok_Re_parseUnit rfl [_, _] [] rfl ⟨_, _, rfl, rfl, Or.inl ⟨_, _, rfl, rfl⟩⟩ (Nat.le_of_ble_eq_true rfl) (t_La_add_69 (D + 1) fm X s t (show Q.length ≤ 400 by omega) hL.1 _) ?_
      rintro _ _ ⟨rfl, rfl⟩
      show ab_Z m_Re_parseUnit _ _ _ 16 [_, _, _] [] _
      refine ab_go ok_Re_parseUnit 2 rfl ?_
      show ab_Z m_Re_parseUnit _ _ _ 18 [_, _, _] [_, _] _
      have hR1 : Rd (adL s 69 Q.length (nI (v n))) K (.inl n) := hR0.of (e8 _ _ 1) (e8 _ _ 2) (e8 _ _ 3)
      refine ab_cl ok_Re_parseUnit rfl [_, _] [] rfl ⟨_, _, rfl, rfl, Or.inl ⟨_, _, rfl, rfl⟩⟩ (Nat.le_of_ble_eq_true rfl) (t_Re_accept (D + 1) fm X _ t (hT.k ((adL_k s 69 Q.length (nI (v n))).r (by decide)) (KRt.rf t)) hR1 (w := 3) (by decide) (by decide) _ rfl) ?_
      rintro _ _ ⟨rfl, s2, rfl, k2, hR2⟩
      show ab_Z m_Re_parseUnit _ _ _ 19 [_, _, _] [_] _
      rw [bnd_l] at hR2
      unfold eatT at hR2
      rw [if_pos h1'] at hR2
      refine ab_go ok_Re_parseUnit 2 rfl ?_
      show ab_Z m_Re_parseUnit _ _ _ 65 [_, _, _] [] _
      exact ab_rV ok_Re_parseUnit rfl (eat1 (0, v n) _ rfl hPo s2 k2 hR2)
    · intro h1
      show ab_Z m_Re_parseUnit _ _ _ 21 [_, _, _] [] _
      have h1' : ¬ K n = 3 := fun z => h1 (by rw [z]; rfl)
      rw [if_neg h1'] at hPo
      refine ab_go ok_Re_parseUnit 3 rfl ?_
      show ab_Z m_Re_parseUnit _ _ _ 24 [_, _, _] [_, _] _
      rw [a2]
      refine ab_br ok_Re_parseUnit rfl rfl ?_ ?_
      · intro h2
        show ab_Z m_Re_parseUnit _ _ _ 36 [_, _, _] [] _
        have h2' : ¬ 268 ≤ K n := by
          have := (nI_ltI (show K n < 2 ^ 31 by omega) (show 268 < 2 ^ 31 by decide)).mp h2
          omega
        rw [if_neg h2'] at hPo
        refine ab_go ok_Re_parseUnit 3 rfl ?_
        show ab_Z m_Re_parseUnit _ _ _ 39 [_, _, _] [_, _] _
        rw [a2]
        refine ab_br ok_Re_parseUnit rfl rfl ?_ ?_
        · intro h3
          show ab_Z m_Re_parseUnit _ _ _ 44 [_, _, _] [] _
          have h3' : K n = 40 := (nI_eq (b := 40) (by omega) (by decide)).mp h3
          rw [if_pos h3'] at hPo
          refine ab_go ok_Re_parseUnit 2 rfl ?_
          show ab_Z m_Re_parseUnit _ _ _ 46 [_, _, _] [_, _] _
          refine ab_br ok_Re_parseUnit rfl rfl ?_ ?_
          · intro h4
            show ab_Z m_Re_parseUnit _ _ _ 51 [_, _, _] [] _
            have hr0 : r ≠ 0 := by
              have := (nI_ltI (show 6 - r < 2 ^ 31 by omega) (show 6 < 2 ^ 31 by decide)).mp h4
              omega
            rw [hp3 hr0] at hPo
            refine ab_go ok_Re_parseUnit 2 rfl ?_
            show ab_Z m_Re_parseUnit _ _ _ 53 [_, _, _] [_, _] _
            refine ab_cl ok_Re_parseUnit rfl [_, _] [] rfl ⟨_, _, rfl, rfl, Or.inl ⟨_, _, rfl, rfl⟩⟩ (Nat.le_of_ble_eq_true rfl) (t_Re_accept (D + 1) fm X s t hT hR0 (w := 40) (by decide) (by decide) _ rfl) ?_
            rintro _ _ ⟨rfl, s1, rfl, k1, hR1⟩
            show ab_Z m_Re_parseUnit _ _ _ 54 [_, _, _] [_] _
            rw [show bnd (.inl n : Rs Nat) (eatT K 40) = goT n from by rw [bnd_l]; unfold eatT; rw [if_pos h3']] at hR1
            have hT1 := hT.k k1.l.r (KRt.rf t)
            have hgo := go_st a4.1
            refine ab_go ok_Re_parseUnit 6 rfl ?_
            show ab_Z m_Re_parseUnit _ _ _ 60 [_, _, _] [_, _, _] _
            refine ab_cl ok_Re_parseUnit rfl [_, _, _] [] rfl ⟨_, _, rfl, rfl, Or.inl ⟨_, _, rfl, rfl⟩⟩ (Nat.le_of_ble_eq_true rfl) (hs hr0 s1 (goT n) Q hT1 hR1 (fun m hm => ⟨k1.c (by decide) hL, by have h9 : n < m := (hgo.1 m hm).1; omega⟩) (k1.z (by decide) hZ)) ?_
            rintro _ _ ⟨rfl, s2, rfl, k2, hR2, hZ2, hq2⟩
            show ab_Z m_Re_parseUnit _ _ _ 61 [_, _, _] [] _
            have hT2 := hT1.k (k2.r (by decide)) (KRt.rf t)
            refine ab_go ok_Re_parseUnit 2 rfl ?_
            show ab_Z m_Re_parseUnit _ _ _ 63 [_, _, _] [_, _] _
            refine ab_cl ok_Re_parseUnit rfl [_, _] [] rfl ⟨_, _, rfl, rfl, Or.inl ⟨_, _, rfl, rfl⟩⟩ (Nat.le_of_ble_eq_true rfl) (t_Re_accept (D + 1) fm X s2 t hT2 hR2 (w := 41) (by decide) (by decide) _ rfl) ?_
            rintro _ _ ⟨rfl, s3, rfl, k3, hR3⟩
            show ab_Z m_Re_parseUnit _ _ _ 64 [_, _, _] [_] _
            refine ab_go ok_Re_parseUnit 1 rfl ?_
            show ab_Z m_Re_parseUnit _ _ _ 65 [_, _, _] [] _
            have fin : Po none (HA fm X s3 t) := by
              rw [← hPo]
              refine ⟨rfl, s3, rfl, (k1.s.tr k2).tr k3.s, ?_, k3.z (by decide) hZ2, fun q hq => ?_⟩
              · have e1 : mpT Prod.fst (bnd (goT n) fun t1 => bnd (lvT K oA (lvT K oM (unT K v (r - 1))) t1) fun q => bnd (eatT K 41 q.1) fun t2 => (.inl (t2, q.2) : Rs (Nat × List Ins))) = bnd (mpT Prod.fst (bnd (goT n) (lvT K oA (lvT K oM (unT K v (r - 1)))))) (eatT K 41) := by
                  cases goT n with
                  | inr e => rfl
                  | inl t1 =>
                    simp only [bnd_l]
                    cases lvT K oA (lvT K oM (unT K v (r - 1))) t1 with
                    | inr e => rfl
                    | inl q =>
                      simp only [bnd_l]
                      cases eatT K 41 q.1 <;> rfl
                rw [e1]
                exact hR3
              · obtain ⟨t1, b1, b2⟩ := bnd_in hq
                obtain ⟨q1, b3, b4⟩ := bnd_in b2
                obtain ⟨t2, b5, b6⟩ := bnd_in b4
                cases b6
                exact k3.c (by decide) (hq2 q1 (by rw [b1, bnd_l]; exact b3))
            exact ab_rV ok_Re_parseUnit rfl (fin)
          · intro h4
            show ab_Z m_Re_parseUnit _ _ _ 47 [_, _, _] [] _
            have hr0 : r = 0 := by
              rcases Nat.eq_zero_or_pos r with h | h
              · exact h
              · exact absurd ((nI_ltI (show 6 - r < 2 ^ 31 by omega) (show 6 < 2 ^ 31 by decide)).mpr (by omega)) h4
            rw [hp2 hr0] at hPo
            refine ab_go ok_Re_parseUnit 2 rfl ?_
            show ab_Z m_Re_parseUnit _ _ _ 49 [_, _, _] [_, _] _
            refine ab_cl ok_Re_parseUnit rfl [_, _] [] rfl ⟨_, _, rfl, rfl, Or.inl ⟨_, _, rfl, rfl⟩⟩ (Nat.le_of_ble_eq_true rfl) (t_Re_fail (D + 1) fm X s t hR0 (c := 2) (by omega) _ rfl) ?_
            rintro _ _ ⟨rfl, s1, rfl, k1, hR1⟩
            show ab_Z m_Re_parseUnit _ _ _ 50 [_, _, _] [] _
            refine ab_go ok_Re_parseUnit 1 rfl ?_
            show ab_Z m_Re_parseUnit _ _ _ 65 [_, _, _] [] _
            have fin : Po none (HA fm X s1 t) := by
              rw [← hPo]
              exact ⟨rfl, s1, rfl, k1.s, hR1, k1.z (by decide) hZ, fun q hq => by cases hq⟩
            exact ab_rV ok_Re_parseUnit rfl (fin)
        · intro h3
          show ab_Z m_Re_parseUnit _ _ _ 40 [_, _, _] [] _
          have h3' : ¬ K n = 40 := fun z => h3 (by rw [z]; rfl)
          rw [if_neg h3'] at hPo
          refine ab_go ok_Re_parseUnit 2 rfl ?_
          show ab_Z m_Re_parseUnit _ _ _ 42 [_, _, _] [_, _] _
          refine ab_cl ok_Re_parseUnit rfl [_, _] [] rfl ⟨_, _, rfl, rfl, Or.inl ⟨_, _, rfl, rfl⟩⟩ (Nat.le_of_ble_eq_true rfl) (t_Re_fail (D + 1) fm X s t hR0 (c := 1) (by omega) _ rfl) ?_
          rintro _ _ ⟨rfl, s1, rfl, k1, hR1⟩
          show ab_Z m_Re_parseUnit _ _ _ 43 [_, _, _] [] _
          refine ab_go ok_Re_parseUnit 1 rfl ?_
          show ab_Z m_Re_parseUnit _ _ _ 65 [_, _, _] [] _
          have fin : Po none (HA fm X s1 t) := by
            rw [← hPo]
            exact ⟨rfl, s1, rfl, k1.s, hR1, k1.z (by decide) hZ, fun q hq => by cases hq⟩
          exact ab_rV ok_Re_parseUnit rfl (fin)
      · intro h2
        show ab_Z m_Re_parseUnit _ _ _ 25 [_, _, _] [] _
        have h2' : 268 ≤ K n := by
          rcases Nat.lt_or_ge (K n) 268 with h | h
          · exact absurd ((nI_ltI (show K n < 2 ^ 31 by omega) (show 268 < 2 ^ 31 by decide)).mpr h) h2
          · exact h
        rw [if_pos h2'] at hPo
        have henc : -nI (K n) = encI (1, K n - 268) := by
          show _ = -nI (268 + (K n - 268))
          rw [show 268 + (K n - 268) = K n by omega]
        refine ab_go ok_Re_parseUnit 4 rfl ?_
        show ab_Z m_Re_parseUnit _ _ _ 29 [_, _, _] [_, _] _
        rw [a2]
        refine ab_cl ok_Re_parseUnit rfl [_, _] [] rfl ⟨_, _, rfl, rfl, Or.inl ⟨_, _, rfl, rfl⟩⟩ (Nat.le_of_ble_eq_true rfl) (t_La_add_69 (D + 1) fm X s t (show Q.length ≤ 400 by omega) hL.1 _) ?_
        rintro _ _ ⟨rfl, rfl⟩
        show ab_Z m_Re_parseUnit _ _ _ 30 [_, _, _] [] _
        refine ab_go ok_Re_parseUnit 3 rfl ?_
        show ab_Z m_Re_parseUnit _ _ _ 33 [_, _, _] [_, _] _
        have hR1 : Rd (adL s 69 Q.length (-nI (K n))) K (.inl n) := hR0.of (e8 _ _ 1) (e8 _ _ 2) (e8 _ _ 3)
        rw [show adL s 69 Q.length (-nI (K n)) 8 2 = nI (K n) from by rw [e8]; exact a2]
        refine ab_cl ok_Re_parseUnit rfl [_, _] [] rfl ⟨_, _, rfl, rfl, Or.inl ⟨_, _, rfl, rfl⟩⟩ (Nat.le_of_ble_eq_true rfl) (t_Re_accept (D + 1) fm X _ t (hT.k ((adL_k s 69 Q.length (-nI (K n))).r (by decide)) (KRt.rf t)) hR1 (w := K n) (by omega) (by omega) _ rfl) ?_
        rintro _ _ ⟨rfl, s2, rfl, k2, hR2⟩
        show ab_Z m_Re_parseUnit _ _ _ 34 [_, _, _] [_] _
        rw [bnd_l] at hR2
        unfold eatT at hR2
        rw [if_pos rfl] at hR2
        rw [henc] at k2
        refine ab_go ok_Re_parseUnit 2 rfl ?_
        show ab_Z m_Re_parseUnit _ _ _ 65 [_, _, _] [] _
        exact ab_rV ok_Re_parseUnit rfl (eat1 (1, K n - 268) _ rfl hPo s2 k2 hR2)
theorem t_exp_69 : ∀ r, r ≤ 6 → ∀ d, CtL g_Re_parseUnit 69 (d + 3 * r + 2) fm X t K P v nm (nI (6 - r)) (unT K v r) ∧ CtL g_Re_parseSum 69 (d + 3 * r + 4) fm X t K P v nm (nI (6 - r)) (smT K v r)
  | 0, _, d => by
    have h1 := t_Re_parseUnit_69 fm X t (K := K) (P := P) (v := v) (nm := nm) (D := d) (r := 0) (by decide) (fun h => absurd rfl h)
    have h2 := t_Re_parseProduct_69 fm X t (D := d + 1) (unT_st K v 0) h1
    exact ⟨h1, t_Re_parseSum_69 fm X t (D := d + 2) (lvT_st (unT_st K v 0)) h2⟩
  | r + 1, hr, d => by
    have ih := (t_exp_69 r (by omega) d).2
    have hs : CtL g_Re_parseSum 69 (d + 3 * r + 3 + 1) fm X t K P v nm (nI (6 - (r + 1)) + 1) (lvT K oA (lvT K oM (unT K v (r + 1 - 1)))) := by
      rw [← nI_succ, show 6 - (r + 1) + 1 = 6 - r by omega]
      exact ih
    have h1 := t_Re_parseUnit_69 fm X t (K := K) (P := P) (v := v) (nm := nm) (D := d + 3 * r + 3) (r := r + 1) hr (fun _ => hs)
    have h2 := t_Re_parseProduct_69 fm X t (D := d + 3 * r + 4) (unT_st K v (r + 1)) h1
    exact ⟨h1, t_Re_parseSum_69 fm X t (D := d + 3 * r + 5) (lvT_st (unT_st K v (r + 1))) h2⟩
theorem t_Re_parseUnit_73 {D r : Nat} (hr : r ≤ 6) (hs : r ≠ 0 → CtL g_Re_parseSum 73 (D + 1) fm X t K P v nm (nI (6 - r) + 1) (lvT K oA (lvT K oM (unT K v (r - 1))))) : CtL g_Re_parseUnit 73 (D + 2) fm X t K P v nm (nI (6 - r)) (unT K v r) := by
  intro s R Q hT hR hQ hZ
  generalize hPo : PLw fm X s t K 73 Q (bnd R (unT K v r)) = Po
  cases R with
  | inr e =>
    obtain ⟨a1, a2, a3, a4⟩ := hR
    refine ab_T_of (M := m_Re_parseUnit) rfl rfl (Nat.le_of_ble_eq_true rfl) ?_
    show ab_Z m_Re_parseUnit _ _ _ 0 [_, _, _] [] _
    refine ab_go ok_Re_parseUnit 2 rfl ?_
    show ab_Z m_Re_parseUnit _ _ _ 2 [_, _, _] [_] _
    rw [a2]
    refine ab_br ok_Re_parseUnit rfl rfl ?_ ?_
    · intro h1
      show ab_Z m_Re_parseUnit _ _ _ 4 [_, _, _] [] _
      exact absurd h1 (nI_ne0 (by omega) (by omega))
    · intro h1
      show ab_Z m_Re_parseUnit _ _ _ 3 [_, _, _] [] _
      have fin : Po none (HA fm X s t) := by
        rw [← hPo]
        exact ⟨rfl, s, rfl, KS.rf 73 s, ⟨a1, a2, a3, a4⟩, hZ, fun q hq => by cases hq⟩
      exact ab_rV ok_Re_parseUnit rfl (fin)
  | inl n =>
    have hR0 := hR
    obtain ⟨a1, a2, a3, a4⟩ := hR
    obtain ⟨hL, hlen⟩ := hQ n rfl
    rw [bnd_l] at hPo
    have hKn := hT.2.1 n
    have hun : ∃ p, unT K v r n = unA K v n p ∧ (r = 0 → p = .inr (2, n)) ∧ (r ≠ 0 → p = bnd (goT n) fun t1 => bnd (lvT K oA (lvT K oM (unT K v (r - 1))) t1) fun q => bnd (eatT K 41 q.1) fun t2 => .inl (t2, q.2)) := by
      cases r with
      | zero => exact ⟨_, rfl, fun _ => rfl, fun h => absurd rfl h⟩
      | succ r => exact ⟨_, rfl, fun h => by omega, fun _ => rfl⟩
    obtain ⟨pp, hp1, hp2, hp3⟩ := hun
    rw [hp1] at hPo
    unfold unA at hPo
    have e8 : ∀ z e j, adL s 73 z e 8 j = s 8 j := fun z e j => by
      unfold adL
      split
      · rw [ab_up_o (by decide), ab_up_o (by decide)]
      · rfl
    have eat1 : ∀ (q : Ins) (F : Rs (Nat × List Ins)), F = (bnd (goT n) fun t1 => .inl (t1, [q])) → PLw fm X s t K 73 Q F = Po → ∀ s2, KA (adL s 73 Q.length (encI q)) s2 → Rd s2 K (goT n) → Po none (HA fm X s2 t) := by
      intro q F hFe hPF s2 k2 hR2
      rw [← hPF]
      refine ⟨rfl, s2, rfl, (adL_k s 73 Q.length (encI q)).tr k2.s, ?_, k2.z (by decide) (adL_z (by omega) hL.1), fun q2 hq2 => ?_⟩
      · rw [hFe]
        cases hg : goT n with
        | inr e => rw [hg] at hR2; exact hR2
        | inl t1 => rw [hg] at hR2; exact hR2
      · rw [hFe] at hq2
        obtain ⟨t1, b1, b2⟩ := bnd_in hq2
        cases b2
        have c1 : n < t1 ∧ t1 ≤ 400 := (go_st a4.1).1 t1 b1
        exact k2.c (by decide) (adL_c (by omega) hL)
    refine ab_T_of (M := m_Re_parseUnit) rfl rfl (Nat.le_of_ble_eq_true rfl) ?_
    show ab_Z m_Re_parseUnit _ _ _ 0 [_, _, _] [] _
    refine ab_go ok_Re_parseUnit 2 rfl ?_
    show ab_Z m_Re_parseUnit _ _ _ 2 [_, _, _] [_] _
    rw [a3]
    refine ab_go ok_Re_parseUnit 1 rfl ?_
    show ab_Z m_Re_parseUnit _ _ _ 4 [_, _, _] [] _
    refine ab_go ok_Re_parseUnit 3 rfl ?_
    show ab_Z m_Re_parseUnit _ _ _ 7 [_, _, _] [_, _] _
    rw [a2]
    refine ab_br ok_Re_parseUnit rfl rfl ?_ ?_
    · intro h1
      show ab_Z m_Re_parseUnit _ _ _ 8 [_, _, _] [] _
      have h1' : K n = 3 := (nI_eq (b := 3) (by omega) (by decide)).mp h1
      rw [if_pos h1'] at hPo
      refine ab_go ok_Re_parseUnit 5 rfl ?_
      show ab_Z m_Re_parseUnit _ _ _ 13 [_, _, _] [_, _, _] _
      rw [a1]
      refine ab_cl ok_Re_parseUnit rfl [_, _] [_] rfl ⟨_, _, rfl, rfl, Or.inl ⟨_, _, rfl, rfl⟩⟩ (Nat.le_of_ble_eq_true rfl) (t_To_valueAt (D + 1) fm X s t a4.1) ?_
      rintro _ _ ⟨rfl, rfl⟩
      show ab_Z m_Re_parseUnit _ _ _ 14 [_, _, _] [_, _] _
      rw [(hT.1 n a4).2.2.1 h1']
      refine ab_go ok_Re_parseUnit 1 rfl ?_
      show ab_Z m_Re_parseUnit _ _ _ 15 [_, _, _] [_, _] _
      rw [lN_i]
      refine ab_cl ok_Re_parseUnit rfl [_, _] [] rfl ⟨_, _, rfl, rfl, Or.inl ⟨_, _, rfl, rfl⟩⟩ (Nat.le_of_ble_eq_true rfl) (t_La_add_73 (D + 1) fm X s t (show Q.length ≤ 400 by omega) hL.1 _) ?_
      rintro _ _ ⟨rfl, rfl⟩
      show ab_Z m_Re_parseUnit _ _ _ 16 [_, _, _] [] _
      refine ab_go ok_Re_parseUnit 2 rfl ?_
      show ab_Z m_Re_parseUnit _ _ _ 18 [_, _, _] [_, _] _
      have hR1 : Rd (adL s 73 Q.length (nI (v n))) K (.inl n) := hR0.of (e8 _ _ 1) (e8 _ _ 2) (e8 _ _ 3)
      refine ab_cl ok_Re_parseUnit rfl [_, _] [] rfl ⟨_, _, rfl, rfl, Or.inl ⟨_, _, rfl, rfl⟩⟩ (Nat.le_of_ble_eq_true rfl) (t_Re_accept (D + 1) fm X _ t (hT.k ((adL_k s 73 Q.length (nI (v n))).r (by decide)) (KRt.rf t)) hR1 (w := 3) (by decide) (by decide) _ rfl) ?_
      rintro _ _ ⟨rfl, s2, rfl, k2, hR2⟩
      show ab_Z m_Re_parseUnit _ _ _ 19 [_, _, _] [_] _
      rw [bnd_l] at hR2
      unfold eatT at hR2
      rw [if_pos h1'] at hR2
      refine ab_go ok_Re_parseUnit 2 rfl ?_
      show ab_Z m_Re_parseUnit _ _ _ 65 [_, _, _] [] _
      exact ab_rV ok_Re_parseUnit rfl (eat1 (0, v n) _ rfl hPo s2 k2 hR2)
    · intro h1
      show ab_Z m_Re_parseUnit _ _ _ 21 [_, _, _] [] _
      have h1' : ¬ K n = 3 := fun z => h1 (by rw [z]; rfl)
      rw [if_neg h1'] at hPo
      refine ab_go ok_Re_parseUnit 3 rfl ?_
      show ab_Z m_Re_parseUnit _ _ _ 24 [_, _, _] [_, _] _
      rw [a2]
      refine ab_br ok_Re_parseUnit rfl rfl ?_ ?_
      · intro h2
        show ab_Z m_Re_parseUnit _ _ _ 36 [_, _, _] [] _
        have h2' : ¬ 268 ≤ K n := by
          have := (nI_ltI (show K n < 2 ^ 31 by omega) (show 268 < 2 ^ 31 by decide)).mp h2
          omega
        rw [if_neg h2'] at hPo
        refine ab_go ok_Re_parseUnit 3 rfl ?_
        show ab_Z m_Re_parseUnit _ _ _ 39 [_, _, _] [_, _] _
        rw [a2]
        refine ab_br ok_Re_parseUnit rfl rfl ?_ ?_
        · intro h3
          show ab_Z m_Re_parseUnit _ _ _ 44 [_, _, _] [] _
          have h3' : K n = 40 := (nI_eq (b := 40) (by omega) (by decide)).mp h3
          rw [if_pos h3'] at hPo
          refine ab_go ok_Re_parseUnit 2 rfl ?_
          show ab_Z m_Re_parseUnit _ _ _ 46 [_, _, _] [_, _] _
          refine ab_br ok_Re_parseUnit rfl rfl ?_ ?_
          · intro h4
            show ab_Z m_Re_parseUnit _ _ _ 51 [_, _, _] [] _
            have hr0 : r ≠ 0 := by
              have := (nI_ltI (show 6 - r < 2 ^ 31 by omega) (show 6 < 2 ^ 31 by decide)).mp h4
              omega
            rw [hp3 hr0] at hPo
            refine ab_go ok_Re_parseUnit 2 rfl ?_
            show ab_Z m_Re_parseUnit _ _ _ 53 [_, _, _] [_, _] _
            refine ab_cl ok_Re_parseUnit rfl [_, _] [] rfl ⟨_, _, rfl, rfl, Or.inl ⟨_, _, rfl, rfl⟩⟩ (Nat.le_of_ble_eq_true rfl) (t_Re_accept (D + 1) fm X s t hT hR0 (w := 40) (by decide) (by decide) _ rfl) ?_
            rintro _ _ ⟨rfl, s1, rfl, k1, hR1⟩
            show ab_Z m_Re_parseUnit _ _ _ 54 [_, _, _] [_] _
            rw [show bnd (.inl n : Rs Nat) (eatT K 40) = goT n from by rw [bnd_l]; unfold eatT; rw [if_pos h3']] at hR1
            have hT1 := hT.k k1.l.r (KRt.rf t)
            have hgo := go_st a4.1
            refine ab_go ok_Re_parseUnit 6 rfl ?_
            show ab_Z m_Re_parseUnit _ _ _ 60 [_, _, _] [_, _, _] _
            refine ab_cl ok_Re_parseUnit rfl [_, _, _] [] rfl ⟨_, _, rfl, rfl, Or.inl ⟨_, _, rfl, rfl⟩⟩ (Nat.le_of_ble_eq_true rfl) (hs hr0 s1 (goT n) Q hT1 hR1 (fun m hm => ⟨k1.c (by decide) hL, by have h9 : n < m := (hgo.1 m hm).1; omega⟩) (k1.z (by decide) hZ)) ?_
            rintro _ _ ⟨rfl, s2, rfl, k2, hR2, hZ2, hq2⟩
            show ab_Z m_Re_parseUnit _ _ _ 61 [_, _, _] [] _
            have hT2 := hT1.k (k2.r (by decide)) (KRt.rf t)
            refine ab_go ok_Re_parseUnit 2 rfl ?_
            show ab_Z m_Re_parseUnit _ _ _ 63 [_, _, _] [_, _] _
            refine ab_cl ok_Re_parseUnit rfl [_, _] [] rfl ⟨_, _, rfl, rfl, Or.inl ⟨_, _, rfl, rfl⟩⟩ (Nat.le_of_ble_eq_true rfl) (t_Re_accept (D + 1) fm X s2 t hT2 hR2 (w := 41) (by decide) (by decide) _ rfl) ?_
            rintro _ _ ⟨rfl, s3, rfl, k3, hR3⟩
            show ab_Z m_Re_parseUnit _ _ _ 64 [_, _, _] [_] _
            refine ab_go ok_Re_parseUnit 1 rfl ?_
            show ab_Z m_Re_parseUnit _ _ _ 65 [_, _, _] [] _
            have fin : Po none (HA fm X s3 t) := by
              rw [← hPo]
              refine ⟨rfl, s3, rfl, (k1.s.tr k2).tr k3.s, ?_, k3.z (by decide) hZ2, fun q hq => ?_⟩
              · have e1 : mpT Prod.fst (bnd (goT n) fun t1 => bnd (lvT K oA (lvT K oM (unT K v (r - 1))) t1) fun q => bnd (eatT K 41 q.1) fun t2 => (.inl (t2, q.2) : Rs (Nat × List Ins))) = bnd (mpT Prod.fst (bnd (goT n) (lvT K oA (lvT K oM (unT K v (r - 1)))))) (eatT K 41) := by
                  cases goT n with
                  | inr e => rfl
                  | inl t1 =>
                    simp only [bnd_l]
                    cases lvT K oA (lvT K oM (unT K v (r - 1))) t1 with
                    | inr e => rfl
                    | inl q =>
                      simp only [bnd_l]
                      cases eatT K 41 q.1 <;> rfl
                rw [e1]
                exact hR3
              · obtain ⟨t1, b1, b2⟩ := bnd_in hq
                obtain ⟨q1, b3, b4⟩ := bnd_in b2
                obtain ⟨t2, b5, b6⟩ := bnd_in b4
                cases b6
                exact k3.c (by decide) (hq2 q1 (by rw [b1, bnd_l]; exact b3))
            exact ab_rV ok_Re_parseUnit rfl (fin)
          · intro h4
            show ab_Z m_Re_parseUnit _ _ _ 47 [_, _, _] [] _
            have hr0 : r = 0 := by
              rcases Nat.eq_zero_or_pos r with h | h
              · exact h
              · exact absurd ((nI_ltI (show 6 - r < 2 ^ 31 by omega) (show 6 < 2 ^ 31 by decide)).mpr (by omega)) h4
            rw [hp2 hr0] at hPo
            refine ab_go ok_Re_parseUnit 2 rfl ?_
            show ab_Z m_Re_parseUnit _ _ _ 49 [_, _, _] [_, _] _
            refine ab_cl ok_Re_parseUnit rfl [_, _] [] rfl ⟨_, _, rfl, rfl, Or.inl ⟨_, _, rfl, rfl⟩⟩ (Nat.le_of_ble_eq_true rfl) (t_Re_fail (D + 1) fm X s t hR0 (c := 2) (by omega) _ rfl) ?_
            rintro _ _ ⟨rfl, s1, rfl, k1, hR1⟩
            show ab_Z m_Re_parseUnit _ _ _ 50 [_, _, _] [] _
            refine ab_go ok_Re_parseUnit 1 rfl ?_
            show ab_Z m_Re_parseUnit _ _ _ 65 [_, _, _] [] _
            have fin : Po none (HA fm X s1 t) := by
              rw [← hPo]
              exact ⟨rfl, s1, rfl, k1.s, hR1, k1.z (by decide) hZ, fun q hq => by cases hq⟩
            exact ab_rV ok_Re_parseUnit rfl (fin)
        · intro h3
          show ab_Z m_Re_parseUnit _ _ _ 40 [_, _, _] [] _
          have h3' : ¬ K n = 40 := fun z => h3 (by rw [z]; rfl)
          rw [if_neg h3'] at hPo
          refine ab_go ok_Re_parseUnit 2 rfl ?_
          show ab_Z m_Re_parseUnit _ _ _ 42 [_, _, _] [_, _] _
          refine ab_cl ok_Re_parseUnit rfl [_, _] [] rfl ⟨_, _, rfl, rfl, Or.inl ⟨_, _, rfl, rfl⟩⟩ (Nat.le_of_ble_eq_true rfl) (t_Re_fail (D + 1) fm X s t hR0 (c := 1) (by omega) _ rfl) ?_
          rintro _ _ ⟨rfl, s1, rfl, k1, hR1⟩
          show ab_Z m_Re_parseUnit _ _ _ 43 [_, _, _] [] _
          refine ab_go ok_Re_parseUnit 1 rfl ?_
          show ab_Z m_Re_parseUnit _ _ _ 65 [_, _, _] [] _
          have fin : Po none (HA fm X s1 t) := by
            rw [← hPo]
            exact ⟨rfl, s1, rfl, k1.s, hR1, k1.z (by decide) hZ, fun q hq => by cases hq⟩
          exact ab_rV ok_Re_parseUnit rfl (fin)
      · intro h2
        show ab_Z m_Re_parseUnit _ _ _ 25 [_, _, _] [] _
        have h2' : 268 ≤ K n := by
          rcases Nat.lt_or_ge (K n) 268 with h | h
          · exact absurd ((nI_ltI (show K n < 2 ^ 31 by omega) (show 268 < 2 ^ 31 by decide)).mpr h) h2
          · exact h
        rw [if_pos h2'] at hPo
        have henc : -nI (K n) = encI (1, K n - 268) := by
          show _ = -nI (268 + (K n - 268))
          rw [show 268 + (K n - 268) = K n by omega]
        refine ab_go ok_Re_parseUnit 4 rfl ?_
        show ab_Z m_Re_parseUnit _ _ _ 29 [_, _, _] [_, _] _
        rw [a2]
        refine ab_cl ok_Re_parseUnit rfl [_, _] [] rfl ⟨_, _, rfl, rfl, Or.inl ⟨_, _, rfl, rfl⟩⟩ (Nat.le_of_ble_eq_true rfl) (t_La_add_73 (D + 1) fm X s t (show Q.length ≤ 400 by omega) hL.1 _) ?_
        rintro _ _ ⟨rfl, rfl⟩
        show ab_Z m_Re_parseUnit _ _ _ 30 [_, _, _] [] _
        refine ab_go ok_Re_parseUnit 3 rfl ?_
        show ab_Z m_Re_parseUnit _ _ _ 33 [_, _, _] [_, _] _
        have hR1 : Rd (adL s 73 Q.length (-nI (K n))) K (.inl n) := hR0.of (e8 _ _ 1) (e8 _ _ 2) (e8 _ _ 3)
        rw [show adL s 73 Q.length (-nI (K n)) 8 2 = nI (K n) from by rw [e8]; exact a2]
        refine ab_cl ok_Re_parseUnit rfl [_, _] [] rfl ⟨_, _, rfl, rfl, Or.inl ⟨_, _, rfl, rfl⟩⟩ (Nat.le_of_ble_eq_true rfl) (t_Re_accept (D + 1) fm X _ t (hT.k ((adL_k s 73 Q.length (-nI (K n))).r (by decide)) (KRt.rf t)) hR1 (w := K n) (by omega) (by omega) _ rfl) ?_
        rintro _ _ ⟨rfl, s2, rfl, k2, hR2⟩
        show ab_Z m_Re_parseUnit _ _ _ 34 [_, _, _] [_] _
        rw [bnd_l] at hR2
        unfold eatT at hR2
        rw [if_pos rfl] at hR2
        rw [henc] at k2
        refine ab_go ok_Re_parseUnit 2 rfl ?_
        show ab_Z m_Re_parseUnit _ _ _ 65 [_, _, _] [] _
        exact ab_rV ok_Re_parseUnit rfl (eat1 (1, K n - 268) _ rfl hPo s2 k2 hR2)
theorem t_exp_73 : ∀ r, r ≤ 6 → ∀ d, CtL g_Re_parseUnit 73 (d + 3 * r + 2) fm X t K P v nm (nI (6 - r)) (unT K v r) ∧ CtL g_Re_parseSum 73 (d + 3 * r + 4) fm X t K P v nm (nI (6 - r)) (smT K v r)
  | 0, _, d => by
    have h1 := t_Re_parseUnit_73 fm X t (K := K) (P := P) (v := v) (nm := nm) (D := d) (r := 0) (by decide) (fun h => absurd rfl h)
    have h2 := t_Re_parseProduct_73 fm X t (D := d + 1) (unT_st K v 0) h1
    exact ⟨h1, t_Re_parseSum_73 fm X t (D := d + 2) (lvT_st (unT_st K v 0)) h2⟩
  | r + 1, hr, d => by
    have ih := (t_exp_73 r (by omega) d).2
    have hs : CtL g_Re_parseSum 73 (d + 3 * r + 3 + 1) fm X t K P v nm (nI (6 - (r + 1)) + 1) (lvT K oA (lvT K oM (unT K v (r + 1 - 1)))) := by
      rw [← nI_succ, show 6 - (r + 1) + 1 = 6 - r by omega]
      exact ih
    have h1 := t_Re_parseUnit_73 fm X t (K := K) (P := P) (v := v) (nm := nm) (D := d + 3 * r + 3) (r := r + 1) hr (fun _ => hs)
    have h2 := t_Re_parseProduct_73 fm X t (D := d + 3 * r + 4) (unT_st K v (r + 1)) h1
    exact ⟨h1, t_Re_parseSum_73 fm X t (D := d + 3 * r + 5) (lvT_st (unT_st K v (r + 1))) h2⟩
theorem t_Re_parseUnit_77 {D r : Nat} (hr : r ≤ 6) (hs : r ≠ 0 → CtL g_Re_parseSum 77 (D + 1) fm X t K P v nm (nI (6 - r) + 1) (lvT K oA (lvT K oM (unT K v (r - 1))))) : CtL g_Re_parseUnit 77 (D + 2) fm X t K P v nm (nI (6 - r)) (unT K v r) := by
  intro s R Q hT hR hQ hZ
  generalize hPo : PLw fm X s t K 77 Q (bnd R (unT K v r)) = Po
  cases R with
  | inr e =>
    obtain ⟨a1, a2, a3, a4⟩ := hR
    refine ab_T_of (M := m_Re_parseUnit) rfl rfl (Nat.le_of_ble_eq_true rfl) ?_
    show ab_Z m_Re_parseUnit _ _ _ 0 [_, _, _] [] _
    refine ab_go ok_Re_parseUnit 2 rfl ?_
    show ab_Z m_Re_parseUnit _ _ _ 2 [_, _, _] [_] _
    rw [a2]
    refine ab_br ok_Re_parseUnit rfl rfl ?_ ?_
    · intro h1
      show ab_Z m_Re_parseUnit _ _ _ 4 [_, _, _] [] _
      exact absurd h1 (nI_ne0 (by omega) (by omega))
    · intro h1
      show ab_Z m_Re_parseUnit _ _ _ 3 [_, _, _] [] _
      have fin : Po none (HA fm X s t) := by
        rw [← hPo]
        exact ⟨rfl, s, rfl, KS.rf 77 s, ⟨a1, a2, a3, a4⟩, hZ, fun q hq => by cases hq⟩
      exact ab_rV ok_Re_parseUnit rfl (fin)
  | inl n =>
    have hR0 := hR
    obtain ⟨a1, a2, a3, a4⟩ := hR
    obtain ⟨hL, hlen⟩ := hQ n rfl
    rw [bnd_l] at hPo
    have hKn := hT.2.1 n
    have hun : ∃ p, unT K v r n = unA K v n p ∧ (r = 0 → p = .inr (2, n)) ∧ (r ≠ 0 → p = bnd (goT n) fun t1 => bnd (lvT K oA (lvT K oM (unT K v (r - 1))) t1) fun q => bnd (eatT K 41 q.1) fun t2 => .inl (t2, q.2)) := by
      cases r with
      | zero => exact ⟨_, rfl, fun _ => rfl, fun h => absurd rfl h⟩
      | succ r => exact ⟨_, rfl, fun h => by omega, fun _ => rfl⟩
    obtain ⟨pp, hp1, hp2, hp3⟩ := hun
    rw [hp1] at hPo
    unfold unA at hPo
    have e8 : ∀ z e j, adL s 77 z e 8 j = s 8 j := fun z e j => by
      unfold adL
      split
      · rw [ab_up_o (by decide), ab_up_o (by decide)]
      · rfl
    have eat1 : ∀ (q : Ins) (F : Rs (Nat × List Ins)), F = (bnd (goT n) fun t1 => .inl (t1, [q])) → PLw fm X s t K 77 Q F = Po → ∀ s2, KA (adL s 77 Q.length (encI q)) s2 → Rd s2 K (goT n) → Po none (HA fm X s2 t) := by
      intro q F hFe hPF s2 k2 hR2
      rw [← hPF]
      refine ⟨rfl, s2, rfl, (adL_k s 77 Q.length (encI q)).tr k2.s, ?_, k2.z (by decide) (adL_z (by omega) hL.1), fun q2 hq2 => ?_⟩
      · rw [hFe]
        cases hg : goT n with
        | inr e => rw [hg] at hR2; exact hR2
        | inl t1 => rw [hg] at hR2; exact hR2
      · rw [hFe] at hq2
        obtain ⟨t1, b1, b2⟩ := bnd_in hq2
        cases b2
        have c1 : n < t1 ∧ t1 ≤ 400 := (go_st a4.1).1 t1 b1
        exact k2.c (by decide) (adL_c (by omega) hL)
    refine ab_T_of (M := m_Re_parseUnit) rfl rfl (Nat.le_of_ble_eq_true rfl) ?_
    show ab_Z m_Re_parseUnit _ _ _ 0 [_, _, _] [] _
    refine ab_go ok_Re_parseUnit 2 rfl ?_
    show ab_Z m_Re_parseUnit _ _ _ 2 [_, _, _] [_] _
    rw [a3]
    refine ab_go ok_Re_parseUnit 1 rfl ?_
    show ab_Z m_Re_parseUnit _ _ _ 4 [_, _, _] [] _
    refine ab_go ok_Re_parseUnit 3 rfl ?_
    show ab_Z m_Re_parseUnit _ _ _ 7 [_, _, _] [_, _] _
    rw [a2]
    refine ab_br ok_Re_parseUnit rfl rfl ?_ ?_
    · intro h1
      show ab_Z m_Re_parseUnit _ _ _ 8 [_, _, _] [] _
      have h1' : K n = 3 := (nI_eq (b := 3) (by omega) (by decide)).mp h1
      rw [if_pos h1'] at hPo
      refine ab_go ok_Re_parseUnit 5 rfl ?_
      show ab_Z m_Re_parseUnit _ _ _ 13 [_, _, _] [_, _, _] _
      rw [a1]
      refine ab_cl ok_Re_parseUnit rfl [_, _] [_] rfl ⟨_, _, rfl, rfl, Or.inl ⟨_, _, rfl, rfl⟩⟩ (Nat.le_of_ble_eq_true rfl) (t_To_valueAt (D + 1) fm X s t a4.1) ?_
      rintro _ _ ⟨rfl, rfl⟩
      show ab_Z m_Re_parseUnit _ _ _ 14 [_, _, _] [_, _] _
      rw [(hT.1 n a4).2.2.1 h1']
      refine ab_go ok_Re_parseUnit 1 rfl ?_
      show ab_Z m_Re_parseUnit _ _ _ 15 [_, _, _] [_, _] _
      rw [lN_i]
      refine ab_cl ok_Re_parseUnit rfl [_, _] [] rfl ⟨_, _, rfl, rfl, Or.inl ⟨_, _, rfl, rfl⟩⟩ (Nat.le_of_ble_eq_true rfl) (t_La_add_77 (D + 1) fm X s t (show Q.length ≤ 400 by omega) hL.1 _) ?_
      rintro _ _ ⟨rfl, rfl⟩
      show ab_Z m_Re_parseUnit _ _ _ 16 [_, _, _] [] _
      refine ab_go ok_Re_parseUnit 2 rfl ?_
      show ab_Z m_Re_parseUnit _ _ _ 18 [_, _, _] [_, _] _
      have hR1 : Rd (adL s 77 Q.length (nI (v n))) K (.inl n) := hR0.of (e8 _ _ 1) (e8 _ _ 2) (e8 _ _ 3)
      refine ab_cl ok_Re_parseUnit rfl [_, _] [] rfl ⟨_, _, rfl, rfl, Or.inl ⟨_, _, rfl, rfl⟩⟩ (Nat.le_of_ble_eq_true rfl) (t_Re_accept (D + 1) fm X _ t (hT.k ((adL_k s 77 Q.length (nI (v n))).r (by decide)) (KRt.rf t)) hR1 (w := 3) (by decide) (by decide) _ rfl) ?_
      rintro _ _ ⟨rfl, s2, rfl, k2, hR2⟩
      show ab_Z m_Re_parseUnit _ _ _ 19 [_, _, _] [_] _
      rw [bnd_l] at hR2
      unfold eatT at hR2
      rw [if_pos h1'] at hR2
      refine ab_go ok_Re_parseUnit 2 rfl ?_
      show ab_Z m_Re_parseUnit _ _ _ 65 [_, _, _] [] _
      exact ab_rV ok_Re_parseUnit rfl (eat1 (0, v n) _ rfl hPo s2 k2 hR2)
    · intro h1
      show ab_Z m_Re_parseUnit _ _ _ 21 [_, _, _] [] _
      have h1' : ¬ K n = 3 := fun z => h1 (by rw [z]; rfl)
      rw [if_neg h1'] at hPo
      refine ab_go ok_Re_parseUnit 3 rfl ?_
      show ab_Z m_Re_parseUnit _ _ _ 24 [_, _, _] [_, _] _
      rw [a2]
      refine ab_br ok_Re_parseUnit rfl rfl ?_ ?_
      · intro h2
        show ab_Z m_Re_parseUnit _ _ _ 36 [_, _, _] [] _
        have h2' : ¬ 268 ≤ K n := by
          have := (nI_ltI (show K n < 2 ^ 31 by omega) (show 268 < 2 ^ 31 by decide)).mp h2
          omega
        rw [if_neg h2'] at hPo
        refine ab_go ok_Re_parseUnit 3 rfl ?_
        show ab_Z m_Re_parseUnit _ _ _ 39 [_, _, _] [_, _] _
        rw [a2]
        refine ab_br ok_Re_parseUnit rfl rfl ?_ ?_
        · intro h3
          show ab_Z m_Re_parseUnit _ _ _ 44 [_, _, _] [] _
          have h3' : K n = 40 := (nI_eq (b := 40) (by omega) (by decide)).mp h3
          rw [if_pos h3'] at hPo
          refine ab_go ok_Re_parseUnit 2 rfl ?_
          show ab_Z m_Re_parseUnit _ _ _ 46 [_, _, _] [_, _] _
          refine ab_br ok_Re_parseUnit rfl rfl ?_ ?_
          · intro h4
            show ab_Z m_Re_parseUnit _ _ _ 51 [_, _, _] [] _
            have hr0 : r ≠ 0 := by
              have := (nI_ltI (show 6 - r < 2 ^ 31 by omega) (show 6 < 2 ^ 31 by decide)).mp h4
              omega
            rw [hp3 hr0] at hPo
            refine ab_go ok_Re_parseUnit 2 rfl ?_
            show ab_Z m_Re_parseUnit _ _ _ 53 [_, _, _] [_, _] _
            refine ab_cl ok_Re_parseUnit rfl [_, _] [] rfl ⟨_, _, rfl, rfl, Or.inl ⟨_, _, rfl, rfl⟩⟩ (Nat.le_of_ble_eq_true rfl) (t_Re_accept (D + 1) fm X s t hT hR0 (w := 40) (by decide) (by decide) _ rfl) ?_
            rintro _ _ ⟨rfl, s1, rfl, k1, hR1⟩
            show ab_Z m_Re_parseUnit _ _ _ 54 [_, _, _] [_] _
            rw [show bnd (.inl n : Rs Nat) (eatT K 40) = goT n from by rw [bnd_l]; unfold eatT; rw [if_pos h3']] at hR1
            have hT1 := hT.k k1.l.r (KRt.rf t)
            have hgo := go_st a4.1
            refine ab_go ok_Re_parseUnit 6 rfl ?_
            show ab_Z m_Re_parseUnit _ _ _ 60 [_, _, _] [_, _, _] _
            refine ab_cl ok_Re_parseUnit rfl [_, _, _] [] rfl ⟨_, _, rfl, rfl, Or.inl ⟨_, _, rfl, rfl⟩⟩ (Nat.le_of_ble_eq_true rfl) (hs hr0 s1 (goT n) Q hT1 hR1 (fun m hm => ⟨k1.c (by decide) hL, by have h9 : n < m := (hgo.1 m hm).1; omega⟩) (k1.z (by decide) hZ)) ?_
            rintro _ _ ⟨rfl, s2, rfl, k2, hR2, hZ2, hq2⟩
            show ab_Z m_Re_parseUnit _ _ _ 61 [_, _, _] [] _
            have hT2 := hT1.k (k2.r (by decide)) (KRt.rf t)
            refine ab_go ok_Re_parseUnit 2 rfl ?_
            show ab_Z m_Re_parseUnit _ _ _ 63 [_, _, _] [_, _] _
            refine ab_cl ok_Re_parseUnit rfl [_, _] [] rfl ⟨_, _, rfl, rfl, Or.inl ⟨_, _, rfl, rfl⟩⟩ (Nat.le_of_ble_eq_true rfl) (t_Re_accept (D + 1) fm X s2 t hT2 hR2 (w := 41) (by decide) (by decide) _ rfl) ?_
            rintro _ _ ⟨rfl, s3, rfl, k3, hR3⟩
            show ab_Z m_Re_parseUnit _ _ _ 64 [_, _, _] [_] _
            refine ab_go ok_Re_parseUnit 1 rfl ?_
            show ab_Z m_Re_parseUnit _ _ _ 65 [_, _, _] [] _
            have fin : Po none (HA fm X s3 t) := by
              rw [← hPo]
              refine ⟨rfl, s3, rfl, (k1.s.tr k2).tr k3.s, ?_, k3.z (by decide) hZ2, fun q hq => ?_⟩
              · have e1 : mpT Prod.fst (bnd (goT n) fun t1 => bnd (lvT K oA (lvT K oM (unT K v (r - 1))) t1) fun q => bnd (eatT K 41 q.1) fun t2 => (.inl (t2, q.2) : Rs (Nat × List Ins))) = bnd (mpT Prod.fst (bnd (goT n) (lvT K oA (lvT K oM (unT K v (r - 1)))))) (eatT K 41) := by
                  cases goT n with
                  | inr e => rfl
                  | inl t1 =>
                    simp only [bnd_l]
                    cases lvT K oA (lvT K oM (unT K v (r - 1))) t1 with
                    | inr e => rfl
                    | inl q =>
                      simp only [bnd_l]
                      cases eatT K 41 q.1 <;> rfl
                rw [e1]
                exact hR3
              · obtain ⟨t1, b1, b2⟩ := bnd_in hq
                obtain ⟨q1, b3, b4⟩ := bnd_in b2
                obtain ⟨t2, b5, b6⟩ := bnd_in b4
                cases b6
                exact k3.c (by decide) (hq2 q1 (by rw [b1, bnd_l]; exact b3))
            exact ab_rV ok_Re_parseUnit rfl (fin)
          · intro h4
            show ab_Z m_Re_parseUnit _ _ _ 47 [_, _, _] [] _
            have hr0 : r = 0 := by
              rcases Nat.eq_zero_or_pos r with h | h
              · exact h
              · exact absurd ((nI_ltI (show 6 - r < 2 ^ 31 by omega) (show 6 < 2 ^ 31 by decide)).mpr (by omega)) h4
            rw [hp2 hr0] at hPo
            refine ab_go ok_Re_parseUnit 2 rfl ?_
            show ab_Z m_Re_parseUnit _ _ _ 49 [_, _, _] [_, _] _
            refine ab_cl ok_Re_parseUnit rfl [_, _] [] rfl ⟨_, _, rfl, rfl, Or.inl ⟨_, _, rfl, rfl⟩⟩ (Nat.le_of_ble_eq_true rfl) (t_Re_fail (D + 1) fm X s t hR0 (c := 2) (by omega) _ rfl) ?_
            rintro _ _ ⟨rfl, s1, rfl, k1, hR1⟩
            show ab_Z m_Re_parseUnit _ _ _ 50 [_, _, _] [] _
            refine ab_go ok_Re_parseUnit 1 rfl ?_
            show ab_Z m_Re_parseUnit _ _ _ 65 [_, _, _] [] _
            have fin : Po none (HA fm X s1 t) := by
              rw [← hPo]
              exact ⟨rfl, s1, rfl, k1.s, hR1, k1.z (by decide) hZ, fun q hq => by cases hq⟩
            exact ab_rV ok_Re_parseUnit rfl (fin)
        · intro h3
          show ab_Z m_Re_parseUnit _ _ _ 40 [_, _, _] [] _
          have h3' : ¬ K n = 40 := fun z => h3 (by rw [z]; rfl)
          rw [if_neg h3'] at hPo
          refine ab_go ok_Re_parseUnit 2 rfl ?_
          show ab_Z m_Re_parseUnit _ _ _ 42 [_, _, _] [_, _] _
          refine ab_cl ok_Re_parseUnit rfl [_, _] [] rfl ⟨_, _, rfl, rfl, Or.inl ⟨_, _, rfl, rfl⟩⟩ (Nat.le_of_ble_eq_true rfl) (t_Re_fail (D + 1) fm X s t hR0 (c := 1) (by omega) _ rfl) ?_
          rintro _ _ ⟨rfl, s1, rfl, k1, hR1⟩
          show ab_Z m_Re_parseUnit _ _ _ 43 [_, _, _] [] _
          refine ab_go ok_Re_parseUnit 1 rfl ?_
          show ab_Z m_Re_parseUnit _ _ _ 65 [_, _, _] [] _
          have fin : Po none (HA fm X s1 t) := by
            rw [← hPo]
            exact ⟨rfl, s1, rfl, k1.s, hR1, k1.z (by decide) hZ, fun q hq => by cases hq⟩
          exact ab_rV ok_Re_parseUnit rfl (fin)
      · intro h2
        show ab_Z m_Re_parseUnit _ _ _ 25 [_, _, _] [] _
        have h2' : 268 ≤ K n := by
          rcases Nat.lt_or_ge (K n) 268 with h | h
          · exact absurd ((nI_ltI (show K n < 2 ^ 31 by omega) (show 268 < 2 ^ 31 by decide)).mpr h) h2
          · exact h
        rw [if_pos h2'] at hPo
        have henc : -nI (K n) = encI (1, K n - 268) := by
          show _ = -nI (268 + (K n - 268))
          rw [show 268 + (K n - 268) = K n by omega]
        refine ab_go ok_Re_parseUnit 4 rfl ?_
        show ab_Z m_Re_parseUnit _ _ _ 29 [_, _, _] [_, _] _
        rw [a2]
        refine ab_cl ok_Re_parseUnit rfl [_, _] [] rfl ⟨_, _, rfl, rfl, Or.inl ⟨_, _, rfl, rfl⟩⟩ (Nat.le_of_ble_eq_true rfl) (t_La_add_77 (D + 1) fm X s t (show Q.length ≤ 400 by omega) hL.1 _) ?_
        rintro _ _ ⟨rfl, rfl⟩
        show ab_Z m_Re_parseUnit _ _ _ 30 [_, _, _] [] _
        refine ab_go ok_Re_parseUnit 3 rfl ?_
        show ab_Z m_Re_parseUnit _ _ _ 33 [_, _, _] [_, _] _
        have hR1 : Rd (adL s 77 Q.length (-nI (K n))) K (.inl n) := hR0.of (e8 _ _ 1) (e8 _ _ 2) (e8 _ _ 3)
        rw [show adL s 77 Q.length (-nI (K n)) 8 2 = nI (K n) from by rw [e8]; exact a2]
        refine ab_cl ok_Re_parseUnit rfl [_, _] [] rfl ⟨_, _, rfl, rfl, Or.inl ⟨_, _, rfl, rfl⟩⟩ (Nat.le_of_ble_eq_true rfl) (t_Re_accept (D + 1) fm X _ t (hT.k ((adL_k s 77 Q.length (-nI (K n))).r (by decide)) (KRt.rf t)) hR1 (w := K n) (by omega) (by omega) _ rfl) ?_
        rintro _ _ ⟨rfl, s2, rfl, k2, hR2⟩
        show ab_Z m_Re_parseUnit _ _ _ 34 [_, _, _] [_] _
        rw [bnd_l] at hR2
        unfold eatT at hR2
        rw [if_pos rfl] at hR2
        rw [henc] at k2
        refine ab_go ok_Re_parseUnit 2 rfl ?_
        show ab_Z m_Re_parseUnit _ _ _ 65 [_, _, _] [] _
        exact ab_rV ok_Re_parseUnit rfl (eat1 (1, K n - 268) _ rfl hPo s2 k2 hR2)
theorem t_exp_77 : ∀ r, r ≤ 6 → ∀ d, CtL g_Re_parseUnit 77 (d + 3 * r + 2) fm X t K P v nm (nI (6 - r)) (unT K v r) ∧ CtL g_Re_parseSum 77 (d + 3 * r + 4) fm X t K P v nm (nI (6 - r)) (smT K v r)
  | 0, _, d => by
    have h1 := t_Re_parseUnit_77 fm X t (K := K) (P := P) (v := v) (nm := nm) (D := d) (r := 0) (by decide) (fun h => absurd rfl h)
    have h2 := t_Re_parseProduct_77 fm X t (D := d + 1) (unT_st K v 0) h1
    exact ⟨h1, t_Re_parseSum_77 fm X t (D := d + 2) (lvT_st (unT_st K v 0)) h2⟩
  | r + 1, hr, d => by
    have ih := (t_exp_77 r (by omega) d).2
    have hs : CtL g_Re_parseSum 77 (d + 3 * r + 3 + 1) fm X t K P v nm (nI (6 - (r + 1)) + 1) (lvT K oA (lvT K oM (unT K v (r + 1 - 1)))) := by
      rw [← nI_succ, show 6 - (r + 1) + 1 = 6 - r by omega]
      exact ih
    have h1 := t_Re_parseUnit_77 fm X t (K := K) (P := P) (v := v) (nm := nm) (D := d + 3 * r + 3) (r := r + 1) hr (fun _ => hs)
    have h2 := t_Re_parseProduct_77 fm X t (D := d + 3 * r + 4) (unT_st K v (r + 1)) h1
    exact ⟨h1, t_Re_parseSum_77 fm X t (D := d + 3 * r + 5) (lvT_st (unT_st K v (r + 1))) h2⟩
end

