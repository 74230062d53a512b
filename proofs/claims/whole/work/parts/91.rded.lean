section
variable (d : Nat) (fm : Value) (X : Nat × (Nat → Int32)) (s : Nat → Nat → Int32) (t : Nat → Nat → Int64)
variable {K P v : Nat → Nat} {nm : Nat → List Nat}
theorem p_ded {K v : Nat → Nat} {nm : Nat → List Nat} {x : Tx} {n n1 : Nat} (hK : K n = 257) (h5 : ¬ xNd x = 6) (hg : goT n = .inl n1) {l2 l3 : Nat × Nat} {R3 : Rs Nat} (hl2 : ∀ n2, eatT K 2 n1 = .inl n2 → l2 = if hasX x (nm n1) = true then ltU (xLt x) 3 n1 else xLt x) (hR3 : R3 = mpT Prod.fst (bnd (eatT K 2 n1) fun n => intT K v 99 n l2)) (hl3 : ∀ a, (bnd (eatT K 2 n1) fun n => intT K v 99 n l2) = .inl a → l3 = a.2.2) : mpT Prod.fst (telT K v nm x n) = bnd (mpT Prod.fst (lvQ K v R3 l3 3)) (eatT K 59) ∧ ∀ q, telT K v nm x n = .inl q → ∃ n2 a b, eatT K 2 n1 = .inl n2 ∧ intT K v 99 n2 l2 = .inl a ∧ (bnd R3 fun n => lv3T K v n l3) = .inl b ∧ eatT K 59 b.1 = .inl q.1 ∧ q.2 = (x.1, (xNd x + 1, updN (xWo x) (xNd x) a.2.1, fil3 (xNe x) (xNd x) b.2.1, updN (xDn x) (xNd x) (nm n1)), x.2.2.1, x.2.2.2.1, x.2.2.2.2.1, b.2.2) := by
  obtain ⟨e1, e2⟩ := lvQ_3 K v R3 l3
  rw [e1]
  unfold telT telB
  simp only [hK]
  unfold dedT
  rw [if_neg h5, hg, bnd_l]
  cases hq2 : eatT K 2 n1 with
  | inr e =>
    rw [hq2] at hR3
    refine ⟨by rw [hR3]; rfl, fun q hq => by cases hq⟩
  | inl n2 =>
    rw [hq2] at hR3 hl3
    rw [bnd_l] at hR3 hl3
    rw [bnd_l, ← hl2 n2 hq2]
    cases hq3 : intT K v 99 n2 l2 with
    | inr e =>
      rw [hq3] at hR3
      refine ⟨by rw [hR3]; rfl, fun q hq => by cases hq⟩
    | inl a =>
      rw [hq3] at hR3
      have hR3' : R3 = .inl a.1 := hR3
      rw [hR3', bnd_l, hl3 a hq3, bnd_l]
      cases hq4 : lv3T K v a.1 a.2.2 with
      | inr e => exact ⟨rfl, fun q hq => by cases hq⟩
      | inl b =>
        refine ⟨?_, fun q hq => ?_⟩
        · show mpT Prod.fst (bnd (eatT K 59 b.1) _) = bnd (.inl b.1) (eatT K 59)
          rw [bnd_l]
          cases eatT K 59 b.1 <;> rfl
        · have hq' : (bnd (eatT K 59 b.1) fun t1 => _) = .inl q := hq
          obtain ⟨m, q1, q2⟩ := bnd_in hq'
          cases q2
          exact ⟨n2, a, b, rfl, hq3, rfl, q1, rfl⟩
theorem o_ded {sd n : Nat} {x : Tx} (hS : RSt K P v nm sd s t n x) (hK : K n = 257) : ab_Z m_Mo_tellOne (d + 6) (0, 0) (PW K P v nm sd fm X s t (telT K v nm x n)) 74 [some (.ref 81), none, none, none] [] (HA fm X s t) := by
  generalize hPo : PW K P v nm sd fm X s t (telT K v nm x n) = Po
  obtain ⟨hT, hR, hl, hlq, h12, ⟨h19, hs2⟩, hN, hD, hL⟩ := hS
  have hD' := hD
  obtain ⟨hC, hE, hDt, hDs⟩ := hD'
  have hcn : s 94 sd = nI (xNd x) := hE.1
  have hc5 : xNd x ≤ 6 := hE.2.1
  have hcd : xNc x + xNd x ≤ 11 := by
    have h1 : xNc x ≤ 5 := hC.2.1
    have h2 : xNd x ≤ 6 := hE.2.1
    omega
  refine ab_go ok_Mo_tellOne 5 rfl ?_
  show ab_Z m_Mo_tellOne _ _ _ 79 [_, _, _, _] [_, _, _] _
  rw [h19]
  refine ab_ia ok_Mo_tellOne rfl rfl (k := sd) (by first | rfl | (simp only [LL1, LL2, LL3, LL4, LL5, LL6, LL7, LL8, LL10, LL15, LL18, LL20, LL21, LL22, LL23, LL24, LL32, LL39, LL40, LL130, LL420, pk_mul, nI_add]; done) | (simp only [LL1, LL2, LL3, LL4, LL5, LL6, LL7, LL8, LL10, LL15, LL18, LL20, LL21, LL22, LL23, LL24, LL32, LL39, LL40, LL130, LL420, pk_mul, nI_add]; congr 1; omega)) (by omega) (Nat.le_of_ble_eq_true rfl) ?_
  show ab_Z m_Mo_tellOne _ _ _ 80 [_, _, _, _] [_, _] _
  rw [hcn]
  refine ab_go ok_Mo_tellOne 1 rfl ?_
  show ab_Z m_Mo_tellOne _ _ _ 81 [_, _, _, _] [_, _, _] _
  refine ab_cl ok_Mo_tellOne rfl [_, _, _] [] rfl ⟨_, _, rfl, rfl, Or.inl ⟨_, _, rfl, rfl⟩⟩ (Nat.le_of_ble_eq_true rfl) (t_Mo_roomFor (d + 3) fm X s t hT hR (by omega) (a := xNd x) (by omega) (m := 6) (by decide) _ rfl) ?_
  rintro _ _ ⟨rfl, s1, rfl, k1, hR1⟩
  show ab_Z m_Mo_tellOne _ _ _ 82 [_, _, _, _] [] _
  refine ab_go ok_Mo_tellOne 2 rfl ?_
  show ab_Z m_Mo_tellOne _ _ _ 84 [_, _, _, _] [_] _
  cases hq1 : (if xNd x = 6 then .inr (2, n) else goT n : Rs Nat) with
  | inr e =>
    rw [hq1] at hR1
    rw [hR1.1]
    have hQ : telT K v nm x n = .inr e := by
      unfold telT telB
      simp only [hK]
      unfold dedT
      by_cases h5 : xNd x = 6
      · rw [if_pos h5] at hq1
        cases hq1
        rw [if_pos h5]
        rfl
      · rw [if_neg h5] at hq1
        rw [if_neg h5, hq1]
        rfl
    refine ab_br ok_Mo_tellOne rfl rfl ?_ ?_
    · intro h1
      show ab_Z m_Mo_tellOne _ _ _ 86 [_, _, _, _] [] _
      exact absurd h1 (fl_1 hR1.2.2.1).2.1
    · intro h1
      show ab_Z m_Mo_tellOne _ _ _ 85 [_, _, _, _] [] _
      have fin : Po none (HA fm X s1 t) := by
        rw [← hPo]
        refine ⟨rfl, s1, t, rfl, k1.n.w, fun _ _ => rfl, by rw [hQ]; exact hR1, fun q hq => by rw [hQ] at hq; cases hq⟩
      exact ab_rV ok_Mo_tellOne rfl (fin)
  | inl n1 =>
    rw [hq1] at hR1
    have h5 : ¬ xNd x = 6 := fun z => by rw [if_pos z] at hq1; cases hq1
    rw [if_neg h5] at hq1
    have hlt : xNd x < 6 := by omega
    have hn1 := (go_1 hq1).1
    rw [hR1.2.1]
    refine ab_go ok_Mo_tellOne 1 rfl ?_
    show ab_Z m_Mo_tellOne _ _ _ 86 [_, _, _, _] [] _
    have hT1 := k1.n.T hT
    refine ab_go ok_Mo_tellOne 8 rfl ?_
    show ab_Z m_Mo_tellOne _ _ _ 94 [_, _, _, _] [_, _, _] _
    rw [(k1 81 19 (by omega)).trans h19]
    refine ab_ia ok_Mo_tellOne rfl rfl (k := sd) (by first | rfl | (simp only [LL1, LL2, LL3, LL4, LL5, LL6, LL7, LL8, LL10, LL15, LL18, LL20, LL21, LL22, LL23, LL24, LL32, LL39, LL40, LL130, LL420, pk_mul, nI_add]; done) | (simp only [LL1, LL2, LL3, LL4, LL5, LL6, LL7, LL8, LL10, LL15, LL18, LL20, LL21, LL22, LL23, LL24, LL32, LL39, LL40, LL130, LL420, pk_mul, nI_add]; congr 1; omega)) (by omega) (Nat.le_of_ble_eq_true rfl) ?_
    show ab_Z m_Mo_tellOne _ _ _ 95 [_, _, _, _] [_, _] _
    rw [k1.br 94 (by decide), hcn]
    refine ab_go ok_Mo_tellOne 3 rfl ?_
    show ab_Z m_Mo_tellOne _ _ _ 98 [_, _, _, _] [_] _
    rw [show (6 : Int32) * nI sd + nI (xNd x) = nI (6 * sd + xNd x) from by rw [show (6 : Int32) = nI 6 from rfl, pk_mul, nI_add]]
    refine ab_cl ok_Mo_tellOne rfl [_] [] rfl ⟨_, _, rfl, rfl, Or.inl ⟨_, _, rfl, rfl⟩⟩ (Nat.le_of_ble_eq_true rfl) (t_Mo_named (d + 2) fm X s1 t hT1 hR1 (k1.lt hl) (fun m hm => by cases hm; exact fun z => by have := hlq z; omega) (k1.n.nm hN) hcd) ?_
    rintro _ _ ⟨y, s2, rfl, rfl, k2, hR2, ⟨l2', hl2'⟩, hy⟩
    show ab_Z m_Mo_tellOne _ _ _ 99 [_, _, _, _] [_] _
    rw [bnd_l] at hR2
    obtain ⟨l2, hl2, hl2e, hl2q⟩ : ∃ l2, LtM s2 P l2 ∧ (∀ n2, eatT K 2 n1 = .inl n2 → l2 = if hasX x (nm n1) = true then ltU (xLt x) 3 n1 else xLt x) ∧ ∀ n2, eatT K 2 n1 = .inl n2 → LtQ l2 n2 := by
      cases hq2 : eatT K 2 n1 with
      | inr e => exact ⟨l2', hl2', fun n2 h => (by cases h), fun n2 h => (by cases h)⟩
      | inl n2 =>
        have hup := eat_up hq2
        refine ⟨_, (hy n1 n2 rfl hq2).2.2, fun _ _ => rfl, fun n2' h => ?_⟩
        cases h
        intro z
        split at z
        · rename_i hh
          rw [if_pos hh]
          unfold ltU at z ⊢
          split
          · exact hup
          · rename_i h0
            have := hlq h0
            omega
        · rename_i hh
          rw [if_neg hh]
          have := hlq z
          omega
    refine ab_go ok_Mo_tellOne 6 rfl ?_
    show ab_Z m_Mo_tellOne _ _ _ 105 [_, _, _, _] [_, _, _, _] _
    refine ab_cl ok_Mo_tellOne rfl [_, _] [_, _] rfl ⟨_, _, rfl, rfl, Or.inl ⟨_, _, rfl, rfl⟩⟩ (Nat.le_of_ble_eq_true rfl) (t_Mo_bounded (d + 3) fm X s2 t (k2.T hT1) hR2 hl2 hl2q (m := 99) (by decide) _ rfl) ?_
    rintro _ _ ⟨ag, s3, rfl, rfl, k3, hR3, ⟨l3', hl3'⟩, hag⟩
    show ab_Z m_Mo_tellOne _ _ _ 106 [_, _, _, _] [_, _, _] _
    obtain ⟨R3, hR3e⟩ : ∃ R3, R3 = mpT Prod.fst (bnd (eatT K 2 n1) fun n => intT K v 99 n l2) := ⟨_, rfl⟩
    rw [← hR3e] at hR3
    obtain ⟨l3, hl3, hl3e, hl3q⟩ : ∃ l3, LtM s3 P l3 ∧ (∀ a, (bnd (eatT K 2 n1) fun n => intT K v 99 n l2) = .inl a → l3 = a.2.2) ∧ ∀ m, R3 = .inl m → LtQ l3 m := by
      cases hq3 : (bnd (eatT K 2 n1) fun n => intT K v 99 n l2) with
      | inr e => exact ⟨l3', hl3', fun n2 h => (by cases h), fun n2 h => (by rw [hR3e, hq3] at h; cases h)⟩
      | inl a => exact ⟨a.2.2, (hag a hq3).2.1, fun a' h => (by cases h; rfl), fun m h => (by rw [hR3e, hq3] at h; cases h; exact (hag a hq3).2.2)⟩
    refine ab_is ok_Mo_tellOne rfl rfl (k := (6 * sd + xNd x)) (by first | rfl | (simp only [LL1, LL2, LL3, LL4, LL5, LL6, LL7, LL8, LL10, LL15, LL18, LL20, LL21, LL22, LL23, LL24, LL32, LL39, LL40, LL130, LL420, pk_mul, nI_add]; done) | (simp only [LL1, LL2, LL3, LL4, LL5, LL6, LL7, LL8, LL10, LL15, LL18, LL20, LL21, LL22, LL23, LL24, LL32, LL39, LL40, LL130, LL420, pk_mul, nI_add]; congr 1; omega)) (by omega) (Nat.le_of_ble_eq_true rfl) ?_
    show ab_Z m_Mo_tellOne _ _ _ 107 [_, _, _, _] [] _
    refine ab_go ok_Mo_tellOne 2 rfl ?_
    show ab_Z m_Mo_tellOne _ _ _ 109 [_, _, _, _] [] _
    have k13 : KN s s3 := k1.n.tr (k2.tr k3)
    have hT3 := k13.T hT
    obtain ⟨ep, ep2⟩ := p_ded (K := K) (v := v) (nm := nm) (x := x) hK h5 hq1 hl2e hR3e hl3e
    refine lp_dn 3 (fun f => ∀ s5, (∀ c j, ¬ (c = 81 ∧ (j = 11 ∨ j = 13 ∨ j = 14 ∨ j = 15 ∨ j = 16)) → ¬ (c = 96 ∧ 3 * (6 * sd + xNd x) ≤ j ∧ j < 3 * (6 * sd + xNd x) + 3) → s5 c j = ab_up s3 95 (6 * sd + xNd x) ag c j) → RdM s5 K P (mpT Prod.fst (lvQ K v R3 l3 f)) → (∃ l', LtM s5 P l') → (∀ a, lvQ K v R3 l3 f = .inl a → LtM s5 P a.2.2 ∧ LtQ a.2.2 a.1 ∧ ∀ g, g < f → s5 96 (3 * (6 * sd + xNd x) + g) = nI (a.2.1 g)) → ab_Z m_Mo_tellOne (d + 6) (0, 0) Po 109 [some (.ref 81), some (.int (nI (6 * sd + xNd x))), some (.int y), some (.int (nI f))] [] (HA fm X s5 t)) ?_ ?_ _ (fun _ _ _ _ => rfl) ?_ ⟨l3, hl3.of (by rw [ab_up_o (by decide)]) (by rw [ab_up_o (by decide)])⟩ ?_
    · intro s5 k5 hR5 hl5 ha5
      have k5' : ∀ c, c ≠ 81 → c ≠ 95 → c ≠ 96 → s5 c = s c := fun c h1 h2 h3 => funext fun j => by rw [k5 c j (fun z => h1 z.1) (fun z => h3 z.1), ab_up_o h2, k13.row h1]
      have k5f : ∀ j, ¬ (j = 11 ∨ j = 13 ∨ j = 14 ∨ j = 15 ∨ j = 16) → s5 81 j = s 81 j := fun j h1 => by rw [k5 81 j (fun z => h1 z.2) (fun z => absurd z.1 (by decide)), ab_up_o (by decide), k13 81 j (fun z => h1 z.2)]
      have kW5 : KW sd s s5 := fun c j hc => by
        rw [k5 c j (fun z => hc (wm0 ⟨z.1, by omega⟩)) (fun z => hc (wm7 ⟨z.1, by omega, by omega⟩))]
        by_cases ha : c = 95
        · subst ha
          rw [ab_up_n (fun z => hc (wm6 ⟨rfl, by omega, by omega⟩))]
          exact k13 _ j (fun z => absurd z.1 (by decide))
        · rw [ab_up_o ha]
          exact k13 c j (fun z => hc (wm0 ⟨z.1, by omega⟩))
      have hT5 : TM s5 t K P v nm := hT.of (k5' 84 (by decide) (by decide) (by decide)) (k5' 85 (by decide) (by decide) (by decide)) (k5' 86 (by decide) (by decide) (by decide)) rfl
      obtain ⟨L, b1, b2, b3, b4, b5⟩ := hN
      have hN5 : NmM s5 t x := ⟨L, (k5f 20 (by omega)).trans b1, b2, b3.of (k5' 90 (by decide) (by decide) (by decide)) rfl, b4, b5⟩
      have hnm : ∀ m, mpT Prod.fst (lvQ K v R3 l3 3) = .inl m → ∃ n2, eatT K 2 n1 = .inl n2 := fun m hm => by
        cases hq2 : eatT K 2 n1 with
        | inr e =>
          rw [(lvQ_3 K v R3 l3).1, hR3e, hq2] at hm
          cases hm
        | inl n2 => exact ⟨n2, rfl⟩
      refine ab_go ok_Mo_tellOne 2 rfl ?_
      show ab_Z m_Mo_tellOne _ _ _ 111 [_, _, _, _] [_, _] _
      refine ab_go ok_Mo_tellOne 1 rfl ?_
      show ab_Z m_Mo_tellOne _ _ _ 125 [_, _, _, _] [] _
      refine ab_go ok_Mo_tellOne 6 rfl ?_
      show ab_Z m_Mo_tellOne _ _ _ 131 [_, _, _, _] [_, _, _, _] _
      rw [k5f 19 (by omega), h19]
      refine ab_ia ok_Mo_tellOne rfl rfl (k := sd) (by first | rfl | (simp only [LL1, LL2, LL3, LL4, LL5, LL6, LL7, LL8, LL10, LL15, LL18, LL20, LL21, LL22, LL23, LL24, LL32, LL39, LL40, LL130, LL420, pk_mul, nI_add]; done) | (simp only [LL1, LL2, LL3, LL4, LL5, LL6, LL7, LL8, LL10, LL15, LL18, LL20, LL21, LL22, LL23, LL24, LL32, LL39, LL40, LL130, LL420, pk_mul, nI_add]; congr 1; omega)) (by omega) (Nat.le_of_ble_eq_true rfl) ?_
      show ab_Z m_Mo_tellOne _ _ _ 132 [_, _, _, _] [_, _, _] _
      rw [k5' 94 (by decide) (by decide) (by decide), hcn]
      refine ab_cl ok_Mo_tellOne rfl [_, _, _] [] rfl ⟨_, _, rfl, rfl, Or.inl ⟨_, _, rfl, rfl⟩⟩ (Nat.le_of_ble_eq_true rfl) (t_Mo_endsName (d + 2) fm X s5 t hT5 hR5 (n := n1) (e := xNd x) (N := L.length) (fun m hm => by obtain ⟨n2, hn2⟩ := hnm m hm; exact ⟨hR1.2.2, (hy n1 n2 rfl hn2).2.1⟩) ((k5f 20 (by omega)).trans b1) (show L.length < 11 by have h1 : xNc x ≤ 5 := hC.2.1; have h2 : xNd x ≤ 6 := hE.2.1; omega) _ _ rfl (fun m hm => by obtain ⟨n2, hn2⟩ := hnm m hm; exact (hy n1 n2 rfl hn2).1)) ?_
      rintro _ _ ⟨rfl, s6, t6, rfl, k6, k6t, hR6, hs6⟩
      show ab_Z m_Mo_tellOne _ _ _ 133 [_, _, _, _] [] _
      have kW6 : KW sd s s6 := kW5.tr (fun c j hc => k6 c j (fun z => hc (wm0 ⟨z.1, by omega⟩)) (fun z => hc (wm1 z)))
      refine ab_go ok_Mo_tellOne 2 rfl ?_
      show ab_Z m_Mo_tellOne _ _ _ 135 [_, _, _, _] [_] _
      rw [← ep] at hR6
      cases hQ : telT K v nm x n with
      | inr e =>
        rw [hQ] at hR6
        have hR6' : RdM s6 K P (.inr e) := hR6
        rw [hR6'.1]
        refine ab_br ok_Mo_tellOne rfl rfl ?_ ?_
        · intro h1
          show ab_Z m_Mo_tellOne _ _ _ 136 [_, _, _, _] [] _
          exact absurd h1 (fl_1 hR6'.2.2.1).1
        · intro h1
          show ab_Z m_Mo_tellOne _ _ _ 207 [_, _, _, _] [] _
          have fin : Po none (HA fm X s6 t6) := by
            rw [← hPo]
            refine ⟨rfl, s6, t6, rfl, kW6, k6t, by rw [hQ]; exact hR6', fun q hq => by rw [hQ] at hq; cases hq⟩
          exact ab_rV ok_Mo_tellOne rfl (fin)
      | inl q =>
        rw [hQ] at hR6
        have hR6' : RdM s6 K P (.inl q.1) := hR6
        rw [hR6'.2.1]
        refine ab_go ok_Mo_tellOne 1 rfl ?_
        show ab_Z m_Mo_tellOne _ _ _ 136 [_, _, _, _] [] _
        obtain ⟨n2, a, b, u1, u2, u3, u4, u5⟩ := ep2 q hQ
        obtain ⟨g, w1, w2⟩ := (lvQ_3 K v R3 l3).2 b u3
        obtain ⟨w3, w4, w5⟩ := ha5 _ w1
        obtain ⟨sJ, kJ, e6, e6t⟩ := hs6 q.1 (by rw [← ep, hQ]; rfl)
        have hbq : b.1 < q.1 := eat_up u4
        have hnq : n ≤ q.1 := by
          have := hR6'.2.2
          have h1 := (hT.2.1)
          have h2 := eat_up u1
          have h3 := (int_P (l := (0, 0)) (K := K) (v := v) (m := 99) (t := n2) (a := (a.1, a.2.1, if 99 < v n2 then ltU (0, 0) 5 n2 else (0, 0))) (by
            unfold intT at u2 ⊢
            obtain ⟨z1, z2, z3⟩ := bnd_in u2
            cases z3
            rw [z2]
            rfl) (fun z => absurd rfl z)).1
          have h4 : R3 = .inl a.1 := by rw [hR3e, u1, bnd_l, u2]; rfl
          rw [h4, bnd_l] at u3
          have h5 : a.1 < b.1 := by
            unfold lv3T intT at u3
            obtain ⟨z1, z2, z3⟩ := bnd_in u3
            obtain ⟨z4, z5, z6⟩ := bnd_in z2
            obtain ⟨z7, z8, z9⟩ := bnd_in z3
            obtain ⟨y4, y5, y6⟩ := bnd_in z8
            obtain ⟨x7, x8, x9⟩ := bnd_in z9
            obtain ⟨x4, x5, x6⟩ := bnd_in x8
            have c1 := eat_up z5
            have c2 := eat_up y5
            have c3 := eat_up x5
            cases z6
            cases y6
            cases x6
            cases x9
            dsimp only at c1 c2 c3 ⊢
            omega
          have h3' : n2 < a.1 := h3
          omega
        have e6c : ∀ c, c ≠ 81 → c ≠ 90 → s6 c = s5 c := fun c h1 h2 => funext fun j => k6 c j (fun z => h1 z.1) h2
        have e6f : ∀ j, ¬ (j = 11 ∨ j = 13 ∨ j = 14 ∨ j = 20) → s6 81 j = s5 81 j := fun j h1 => k6 81 j (fun z => h1 z.2) (by decide)
        refine ab_go ok_Mo_tellOne 5 rfl ?_
        show ab_Z m_Mo_tellOne _ _ _ 141 [_, _, _, _] [_, _, _, _] _
        rw [e6f 19 (by omega), k5f 19 (by omega), h19]
        refine ab_ia ok_Mo_tellOne rfl rfl (k := sd) (by first | rfl | (simp only [LL1, LL2, LL3, LL4, LL5, LL6, LL7, LL8, LL10, LL15, LL18, LL20, LL21, LL22, LL23, LL24, LL32, LL39, LL40, LL130, LL420, pk_mul, nI_add]; done) | (simp only [LL1, LL2, LL3, LL4, LL5, LL6, LL7, LL8, LL10, LL15, LL18, LL20, LL21, LL22, LL23, LL24, LL32, LL39, LL40, LL130, LL420, pk_mul, nI_add]; congr 1; omega)) (by omega) (Nat.le_of_ble_eq_true rfl) ?_
        show ab_Z m_Mo_tellOne _ _ _ 142 [_, _, _, _] [_, _, _] _
        rw [e6c 94 (by decide) (by decide), k5' 94 (by decide) (by decide) (by decide), hcn]
        refine ab_go ok_Mo_tellOne 2 rfl ?_
        show ab_Z m_Mo_tellOne _ _ _ 144 [_, _, _, _] [_, _, _] _
        rw [← nI_succ]
        refine ab_is ok_Mo_tellOne rfl rfl (k := sd) (by first | rfl | (simp only [LL1, LL2, LL3, LL4, LL5, LL6, LL7, LL8, LL10, LL15, LL18, LL20, LL21, LL22, LL23, LL24, LL32, LL39, LL40, LL130, LL420, pk_mul, nI_add]; done) | (simp only [LL1, LL2, LL3, LL4, LL5, LL6, LL7, LL8, LL10, LL15, LL18, LL20, LL21, LL22, LL23, LL24, LL32, LL39, LL40, LL130, LL420, pk_mul, nI_add]; congr 1; omega)) (by omega) (Nat.le_of_ble_eq_true rfl) ?_
        show ab_Z m_Mo_tellOne _ _ _ 145 [_, _, _, _] [] _
        refine ab_go ok_Mo_tellOne 1 rfl ?_
        show ab_Z m_Mo_tellOne _ _ _ 207 [_, _, _, _] [] _
        obtain ⟨s7, hs7⟩ : ∃ s7, s7 = ab_up s6 94 sd (nI (xNd x + 1)) := ⟨_, rfl⟩
        have e7 : ∀ c, c ≠ 94 → s7 c = s6 c := fun c hc => by rw [hs7, ab_up_o hc]
        have fin : Po none (HA fm X s7 t6) := by
          rw [← hPo]
          refine ⟨rfl, s7, t6, rfl, by rw [hs7]; exact KW.u (wm3 ⟨by decide, rfl⟩) kW6, k6t, ?_, fun q' hq' => ?_⟩
          · rw [hQ]
            exact hR6'.of (by rw [e7 81 (by decide)]) (by rw [e7 81 (by decide)]) (by rw [e7 81 (by decide)])
          · rw [hQ] at hq'
            cases hq'
            have r6 : ∀ c, c ≠ 81 → c ≠ 90 → c ≠ 94 → c ≠ 95 → c ≠ 96 → s7 c = s c := fun c h1 h2 h3 h4 h5 => by rw [e7 c h3, e6c c h1 h2, k5' c h1 h4 h5]
            have f6 : ∀ j, ¬ (j = 11 ∨ j = 13 ∨ j = 14 ∨ j = 15 ∨ j = 16 ∨ j = 20) → s7 81 j = s 81 j := fun j h1 => by rw [e7 81 (by decide), e6f j (by omega), k5f j (by omega)]
            have hNw : nmO (nm n1) := hT.2.1.2.2 n1 (hy n1 n2 rfl u1).2.1
            have hNJ : NmM sJ t x := kJ.n.nm hN5
            have hN6 := NmM.ded hNJ (x' := q.2) hNw (n := L.length) ((kJ 81 20 (by omega)).trans ((k5f 20 (by omega)).trans b1)) (by omega) (by omega) hlt (by rw [u5]) (by rw [u5]) (by rw [u5])
            rw [← e6t, ← e6] at hN6
            have hN7 : NmM s7 t6 q.2 := by
              obtain ⟨L6, v1, v2, v3, v4⟩ := hN6
              exact ⟨L6, by rw [e7 81 (by decide)]; exact v1, v2, v3.of (e7 90 (by decide)) rfl, v4⟩
            have blk : DkB s7 94 95 96 6 sd (xNd x + 1, updN (xWo x) (xNd x) a.2.1, fil3 (xNe x) (xNd x) b.2.1, updN (xDn x) (xNd x) (nm n1)) := by
              refine ⟨by rw [hs7, ab_up_s], show xNd x + 1 ≤ 6 by omega, fun c hc => ?_⟩
              have hc' : c < xNd x + 1 := hc
              have eA : s7 95 = ab_up s3 95 (6 * sd + xNd x) ag 95 := by
                funext j
                rw [e7 95 (by decide), e6c 95 (by decide) (by decide), k5 95 j (by omega) (by omega)]
              have eF : s7 96 = s5 96 := by rw [e7 96 (by decide), e6c 96 (by decide) (by decide)]
              rw [eA, eF]
              by_cases hcn' : c = xNd x
              · subst hcn'
                refine ⟨?_, fun f hf => ?_⟩
                · rw [ab_up_s, (hag a (by rw [u1, bnd_l]; exact u2)).1]
                  show nI a.2.1 = nI (updN (xWo x) (xNd x) a.2.1 (xNd x))
                  unfold updN
                  rw [if_pos rfl]
                · rw [w5 f hf]
                  show nI (g f) = nI (fil3 (xNe x) (xNd x) b.2.1 (3 * xNd x + f))
                  unfold fil3
                  rw [if_pos (by omega), Nat.add_sub_cancel_left, w2 f hf]
              · obtain ⟨g1, g2⟩ := hE.2.2 c (show c < xNd x by omega)
                refine ⟨?_, fun f hf => ?_⟩
                · rw [ab_up_n (by omega), k13.row (by decide), g1]
                  show _ = nI (updN (xWo x) (xNd x) a.2.1 c)
                  unfold updN
                  rw [if_neg hcn']
                · rw [k5 96 _ (by omega) (by omega), ab_up_o (by decide), k13.row (by decide), g2 f hf]
                  show _ = nI (fil3 (xNe x) (xNd x) b.2.1 (3 * c + f))
                  unfold fil3
                  rw [if_neg (by omega)]
            refine ⟨hT.of (r6 84 (by decide) (by decide) (by decide) (by decide) (by decide)) (r6 85 (by decide) (by decide) (by decide) (by decide) (by decide)) (r6 86 (by decide) (by decide) (by decide) (by decide) (by decide)) (k6t 87 (by decide)), hR6'.of (by rw [e7 81 (by decide)]) (by rw [e7 81 (by decide)]) (by rw [e7 81 (by decide)]), ?_, ?_, (f6 12 (by omega)).trans h12, ⟨(f6 19 (by omega)).trans h19, hs2⟩, hN7, ?_, ?_⟩
            · rw [show xLt q.2 = b.2.2 by rw [u5]]
              exact w3.of (by rw [e7 81 (by decide), e6f 15 (by omega)]) (by rw [e7 81 (by decide), e6f 16 (by omega)])
            · rw [show xLt q.2 = b.2.2 by rw [u5]]
              exact fun z => by have := w4 z; dsimp only at this; omega
            · rw [u5]
              exact ⟨hC.of (by rw [r6 91 (by decide) (by decide) (by decide) (by decide) (by decide)]) (r6 92 (by decide) (by decide) (by decide) (by decide) (by decide)) (r6 93 (by decide) (by decide) (by decide) (by decide) (by decide)), blk, hDt.of (by rw [r6 97 (by decide) (by decide) (by decide) (by decide) (by decide)]) (r6 98 (by decide) (by decide) (by decide) (by decide) (by decide)) (r6 99 (by decide) (by decide) (by decide) (by decide) (by decide)), ⟨by rw [r6 100 (by decide) (by decide) (by decide) (by decide) (by decide)]; exact hDs.1, by rw [r6 101 (by decide) (by decide) (by decide) (by decide) (by decide)]; exact hDs.2⟩⟩
            · rw [show xLw q.2 = xLw x by rw [u5]]
              exact hL.of (f6 42 (by omega)) (f6 36 (by omega)) (fun c h1 h2 => r6 c (by omega) (by omega) (by omega) (by omega) (by omega)) hnq
        rw [hs7] at fin
        exact ab_rV ok_Mo_tellOne rfl (fin)
    · intro f hf ih s5 k5 hR5 hl5 ha5
      have hT5 : TM s5 t K P v nm := hT.of (funext fun j => by rw [k5 84 j (by omega) (by omega), ab_up_o (by decide), k13.row (by decide)]) (funext fun j => by rw [k5 85 j (by omega) (by omega), ab_up_o (by decide), k13.row (by decide)]) (funext fun j => by rw [k5 86 j (by omega) (by omega), ab_up_o (by decide), k13.row (by decide)]) rfl
      refine ab_go ok_Mo_tellOne 2 rfl ?_
      show ab_Z m_Mo_tellOne _ _ _ 111 [_, _, _, _] [_, _] _
      refine ab_br ok_Mo_tellOne rfl rfl ?_ ?_
      · intro h1
        show ab_Z m_Mo_tellOne _ _ _ 125 [_, _, _, _] [] _
        exact absurd h1 (lp_in (N := 3) (by decide) hf)
      · intro h1
        show ab_Z m_Mo_tellOne _ _ _ 112 [_, _, _, _] [] _
        obtain ⟨l4', hl4'⟩ := hl5
        obtain ⟨l4, hl4, hl4e, hl4q⟩ : ∃ l4, LtM s5 P l4 ∧ (∀ a, lvQ K v R3 l3 f = .inl a → l4 = a.2.2) ∧ ∀ m, mpT Prod.fst (lvQ K v R3 l3 f) = .inl m → LtQ l4 m := by
          cases hq : lvQ K v R3 l3 f with
          | inr e => exact ⟨l4', hl4', fun a h => (by cases h), fun a h => (by cases h)⟩
          | inl a => exact ⟨a.2.2, (ha5 a hq).1, fun b h => (by cases h; rfl), fun m h => (by cases h; exact (ha5 a hq).2.1)⟩
        have hI : (bnd (mpT Prod.fst (lvQ K v R3 l3 f)) fun n => intT K v 9 n l4) = bnd (lvQ K v R3 l3 f) fun a => intT K v 9 a.1 a.2.2 := by
          cases hq : lvQ K v R3 l3 f with
          | inr e => rfl
          | inl a => rw [hl4e a hq]; rfl
        refine ab_go ok_Mo_tellOne 9 rfl ?_
        show ab_Z m_Mo_tellOne _ _ _ 121 [_, _, _, _] [_, _, _, _] _
        refine ab_cl ok_Mo_tellOne rfl [_, _] [_, _] rfl ⟨_, _, rfl, rfl, Or.inl ⟨_, _, rfl, rfl⟩⟩ (Nat.le_of_ble_eq_true rfl) (t_Mo_bounded (d + 3) fm X s5 t hT5 hR5 hl4 hl4q (m := 9) (by decide) _ rfl) ?_
        rintro _ _ ⟨z, s6, rfl, rfl, k6, hR6, hl6, hz⟩
        show ab_Z m_Mo_tellOne _ _ _ 122 [_, _, _, _] [_, _, _] _
        rw [hI] at hR6 hz
        refine ab_is ok_Mo_tellOne rfl rfl (k := (3 * (6 * sd + xNd x) + f)) (by rw [show (3 : Int32) = nI 3 from rfl, pk_mul, nI_add]) (by omega) (Nat.le_of_ble_eq_true rfl) ?_
        show ab_Z m_Mo_tellOne _ _ _ 123 [_, _, _, _] [] _
        refine ab_go ok_Mo_tellOne 2 rfl ?_
        show ab_Z m_Mo_tellOne _ _ _ 109 [_, _, _, _] [] _
        rw [← nI_succ]
        refine ih _ (fun c j h1 h2 => ?_) ?_ ?_ (fun a ha => ?_)
        · by_cases hc : c = 96
          · subst hc
            rw [ab_up_n (by omega), k6 _ j h1, k5 _ j h1 h2]
          · rw [ab_up_o hc, k6 c j h1, k5 c j h1 h2]
        · have e1 : mpT Prod.fst (lvQ K v R3 l3 (f + 1)) = mpT Prod.fst (bnd (lvQ K v R3 l3 f) fun a => intT K v 9 a.1 a.2.2) := by
            rw [lvQ]
            cases lvQ K v R3 l3 f with
            | inr e => rfl
            | inl a =>
              simp only [bnd_l]
              cases intT K v 9 a.1 a.2.2 <;> rfl
          rw [e1]
          exact hR6.of (by rw [ab_up_o (by decide)]) (by rw [ab_up_o (by decide)]) (by rw [ab_up_o (by decide)])
        · obtain ⟨l6, hl6'⟩ := hl6
          exact ⟨l6, hl6'.of (by rw [ab_up_o (by decide)]) (by rw [ab_up_o (by decide)])⟩
        · rw [lvQ] at ha
          obtain ⟨a0, q1, q2⟩ := bnd_in ha
          obtain ⟨b0, q3, q4⟩ := bnd_in q2
          cases q4
          have hb : (bnd (lvQ K v R3 l3 f) fun a => intT K v 9 a.1 a.2.2) = .inl b0 := by rw [q1, bnd_l]; exact q3
          obtain ⟨y1, y2, y3⟩ := hz b0 hb
          refine ⟨y2.of (by rw [ab_up_o (by decide)]) (by rw [ab_up_o (by decide)]), y3, fun g hg => ?_⟩
          by_cases hgf : g = f
          · subst hgf
            rw [ab_up_s, y1]
            show _ = nI (updN a0.2.1 g b0.2.1 g)
            unfold updN
            rw [if_pos rfl]
          · rw [ab_up_n (by omega), k6.row (by decide), (ha5 a0 q1).2.2 g (by omega)]
            show _ = nI (updN a0.2.1 f b0.2.1 g)
            unfold updN
            rw [if_neg hgf]
    · have e0 : mpT Prod.fst (lvQ K v R3 l3 0) = R3 := by rw [lvQ]; cases R3 <;> rfl
      rw [e0]
      exact hR3.of (by rw [ab_up_o (by decide)]) (by rw [ab_up_o (by decide)]) (by rw [ab_up_o (by decide)])
    · intro a ha
      rw [lvQ] at ha
      obtain ⟨m, q1, q2⟩ := bnd_in ha
      cases q2
      exact ⟨hl3.of (by rw [ab_up_o (by decide)]) (by rw [ab_up_o (by decide)]), hl3q m q1, fun g hg => absurd hg (by omega)⟩
end

