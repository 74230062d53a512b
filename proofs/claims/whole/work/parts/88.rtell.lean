theorem KN.nm {s s' : Nat → Nat → Int32} {t : Nat → Nat → Int64} {x : Tx} (k : KN s s') (h : NmM s t x) : NmM s' t x := by
  obtain ⟨l, a1, a2, a3, a4⟩ := h
  exact ⟨l, (k 81 20 (by omega)).trans a1, a2, a3.of (k.row (by decide)) rfl, a4⟩
theorem ltU_2 (l : Nat × Nat) (c t : Nat) (hc : c ≠ 0) : ltU (ltU l c t) c t = ltU l c t := by
  unfold ltU
  by_cases h : l.1 = 0
  · rw [if_pos h, if_neg hc]
  · rw [if_neg h, if_neg h]
section
variable (d : Nat) (fm : Value) (X : Nat × (Nat → Int32)) (s : Nat → Nat → Int32) (t : Nat → Nat → Int64)
variable {K P v : Nat → Nat} {nm : Nat → List Nat}
theorem t_Mo_roomFor (hT : TM s t K P v nm) {n : Nat} (hR : RdM s K P (.inl n)) (hk : K n ≠ 0 ∧ K n ≠ 1) {a m : Nat} (ha : a < 100) (hm : m < 100) (z : Int32) (hz : z = nI m) : ab_T g_Mo_roomFor (d + 2) (0, 0) [.ref 81, .int (nI a), .int z] (HA fm X s t) (fun r h => r = none ∧ ∃ s', h = HA fm X s' t ∧ KJ s s' ∧ RdM s' K P (if a = m then .inr (2, n) else goT n)) := by
  subst hz
  refine ab_T_of (M := m_Mo_roomFor) rfl rfl (Nat.le_of_ble_eq_true rfl) ?_
  show ab_Z m_Mo_roomFor _ _ _ 0 [_, _, _] [] _
  refine ab_go ok_Mo_roomFor 2 rfl ?_
  show ab_Z m_Mo_roomFor _ _ _ 2 [_, _, _] [_, _] _
  refine ab_br ok_Mo_roomFor rfl rfl ?_ ?_
  · intro h1
    show ab_Z m_Mo_roomFor _ _ _ 3 [_, _, _] [] _
    have h1' := (nI_eq (show a < 2 ^ 31 by omega) (show m < 2 ^ 31 by omega)).mp h1
    refine ab_go ok_Mo_roomFor 2 rfl ?_
    show ab_Z m_Mo_roomFor _ _ _ 5 [_, _, _] [_, _] _
    refine ab_cl ok_Mo_roomFor rfl [_, _] [] rfl ⟨_, _, rfl, rfl, Or.inl ⟨_, _, rfl, rfl⟩⟩ (Nat.le_of_ble_eq_true rfl) (t_Mo_fail (d + 1) fm X s t hT hR (c := 2) (by omega) _ rfl) ?_
    rintro _ _ ⟨rfl, s1, rfl, k1, hR1, -⟩
    show ab_Z m_Mo_roomFor _ _ _ 6 [_, _, _] [] _
    rw [bnd_l] at hR1
    refine ab_go ok_Mo_roomFor 2 rfl ?_
    show ab_Z m_Mo_roomFor _ _ _ 8 [_, _, _] [_] _
    rw [hR1.1]
    refine ab_go ok_Mo_roomFor 1 rfl ?_
    show ab_Z m_Mo_roomFor _ _ _ 11 [_, _, _] [] _
    rw [if_pos h1']
    exact ab_rV ok_Mo_roomFor rfl (⟨rfl, s1, rfl, k1, hR1⟩)
  · intro h1
    show ab_Z m_Mo_roomFor _ _ _ 6 [_, _, _] [] _
    have h1' : ¬ a = m := fun z => h1 (by rw [z])
    refine ab_go ok_Mo_roomFor 2 rfl ?_
    show ab_Z m_Mo_roomFor _ _ _ 8 [_, _, _] [_] _
    rw [hR.2.1]
    refine ab_go ok_Mo_roomFor 1 rfl ?_
    show ab_Z m_Mo_roomFor _ _ _ 9 [_, _, _] [] _
    refine ab_go ok_Mo_roomFor 1 rfl ?_
    show ab_Z m_Mo_roomFor _ _ _ 10 [_, _, _] [_] _
    refine ab_cl ok_Mo_roomFor rfl [_] [] rfl ⟨_, _, rfl, rfl, Or.inl ⟨_, _, rfl, rfl⟩⟩ (Nat.le_of_ble_eq_true rfl) (t_Mo_goesOn d fm X s t hT hR (fun j hj => by cases hj; exact hk)) ?_
    rintro _ _ ⟨rfl, s1, rfl, k1, hR1⟩
    show ab_Z m_Mo_roomFor _ _ _ 11 [_, _, _] [] _
    rw [if_neg h1']
    exact ab_rV ok_Mo_roomFor rfl (⟨rfl, s1, rfl, k1, hR1⟩)
theorem t_Mo_named (hT : TM s t K P v nm) {R : Rs Nat} (hR : RdM s K P R) {l : Nat × Nat} (hl : LtM s P l) (hlq : ∀ n, R = .inl n → LtQ l n) {x : Tx} (hN : NmM s t x) (h11 : xNc x + xNd x ≤ 11) : ab_T g_Mo_named (d + 3) (0, 0) [.ref 81] (HA fm X s t) (fun r h => ∃ y s', r = some (.int y) ∧ h = HA fm X s' t ∧ KN s s' ∧ RdM s' K P (bnd R (eatT K 2)) ∧ (∃ l', LtM s' P l') ∧ ∀ n n1, R = .inl n → eatT K 2 n = .inl n1 → y = nI n ∧ K n = 2 ∧ LtM s' P (if hasX x (nm n) = true then ltU l 3 n else l)) := by
  generalize hPo : (fun r h => ∃ y s', r = some (.int y) ∧ h = HA fm X s' t ∧ KN s s' ∧ RdM s' K P (bnd R (eatT K 2)) ∧ (∃ l', LtM s' P l') ∧ ∀ n n1, R = .inl n → eatT K 2 n = .inl n1 → y = nI n ∧ K n = 2 ∧ LtM s' P (if hasX x (nm n) = true then ltU l 3 n else l) : Option Value → ab_H → Prop) = Po
  obtain ⟨m, m1, m2, m3⟩ := hR.pos
  refine ab_T_of (M := m_Mo_named) rfl rfl (Nat.le_of_ble_eq_true rfl) ?_
  show ab_Z m_Mo_named _ _ _ 0 [_, _, _] [] _
  refine ab_go ok_Mo_named 5 rfl ?_
  show ab_Z m_Mo_named _ _ _ 5 [_, _, _] [_, _] _
  rw [m2]
  refine ab_cl ok_Mo_named rfl [_, _] [] rfl ⟨_, _, rfl, rfl, Or.inl ⟨_, _, rfl, rfl⟩⟩ (Nat.le_of_ble_eq_true rfl) (t_Mo_must d fm X s t hT hR (w := 2) (by decide) (by decide) _ rfl) ?_
  rintro _ _ ⟨rfl, s1, rfl, k1, hR1⟩
  show ab_Z m_Mo_named _ _ _ 6 [_, _, _] [] _
  refine ab_go ok_Mo_named 2 rfl ?_
  show ab_Z m_Mo_named _ _ _ 8 [_, _, _] [] _
  cases hq : bnd R (eatT K 2) with
  | inr e =>
    rw [hq] at hR1
    obtain ⟨L, b1, b2, -⟩ := hN
    have b1' : s1 81 20 = nI L.length := (k1 81 20 (by omega)).trans b1
    have fin : Po (some (.int (nI m))) (HA fm X s1 t) := by
      rw [← hPo]
      refine ⟨_, s1, rfl, rfl, k1.n, by rw [hq]; exact hR1, ⟨l, k1.lt hl⟩, fun n n1 hn hn1 => ?_⟩
      rw [hn, bnd_l, hn1] at hq
      cases hq
    refine ab_go ok_Mo_named 3 rfl ?_
    show ab_Z m_Mo_named _ _ _ 11 [_, _, _] [_, _] _
    rw [b1']
    refine ab_br ok_Mo_named rfl rfl ?_ ?_
    · intro h1
      show ab_Z m_Mo_named _ _ _ 31 [_, _, _] [] _
      refine ab_go ok_Mo_named 1 rfl ?_
      show ab_Z m_Mo_named _ _ _ 32 [_, _, _] [_] _
      exact ab_rI ok_Mo_named rfl (fin)
    · intro h1
      show ab_Z m_Mo_named _ _ _ 12 [_, _, _] [] _
      refine ab_go ok_Mo_named 2 rfl ?_
      show ab_Z m_Mo_named _ _ _ 14 [_, _, _] [_] _
      rw [hR1.1]
      refine ab_br ok_Mo_named rfl rfl ?_ ?_
      · intro h2
        show ab_Z m_Mo_named _ _ _ 15 [_, _, _] [] _
        exact absurd h2 (fl_1 hR1.2.2.1).1
      · intro h2
        show ab_Z m_Mo_named _ _ _ 31 [_, _, _] [] _
        refine ab_go ok_Mo_named 1 rfl ?_
        show ab_Z m_Mo_named _ _ _ 32 [_, _, _] [_] _
        exact ab_rI ok_Mo_named rfl (fin)
  | inl n1 =>
    rw [hq] at hR1
    obtain ⟨n, hn, hn1⟩ := bnd_in hq
    have hmn := m3 n hn
    subst hmn
    have hK2 : K m = 2 := by
      unfold eatT at hn1
      by_cases h : K m = 2
      · exact h
      · rw [if_neg h] at hn1; cases hn1
    have hgm : gdT K m := by rw [hn] at hR; exact hR.2.2
    have hlq' := hlq m hn
    obtain ⟨L, b1, b2, b3, b4, -⟩ := hN
    have hnw := hT.2.1.2.2 m hK2
    have main := lp_dn L.length (fun k => ∀ s2 l2, KN s s2 → RdM s2 K P (.inl n1) → LtM s2 P l2 → l2 = (if lHas (L.take k) (nm m) = true then ltU l 3 m else l) → ab_Z m_Mo_named (d + 3) (0, 0) Po 8 [some (.ref 81), some (.int (nI m)), some (.int (nI k))] [] (HA fm X s2 t)) ?_ ?_
    · refine main s1 l k1.n hR1 (k1.lt hl) ?_
      rw [show lHas (L.take 0) (nm m) = false from rfl, if_neg (show ¬ false = true by decide)]
    · intro s2 l2 k2 hR2 hl2 hl2e
      rw [List.take_length, ← b4] at hl2e
      have fin : Po (some (.int (nI m))) (HA fm X s2 t) := by
        rw [← hPo]
        refine ⟨_, s2, rfl, rfl, k2, by rw [hq]; exact hR2, ⟨l2, hl2⟩, fun n n1' hn' hn1' => ?_⟩
        rw [hn] at hn'
        cases hn'
        exact ⟨rfl, hK2, hl2e ▸ hl2⟩
      refine ab_go ok_Mo_named 3 rfl ?_
      show ab_Z m_Mo_named _ _ _ 11 [_, _, _] [_, _] _
      rw [(k2 81 20 (by omega)).trans b1]
      refine ab_br ok_Mo_named rfl rfl ?_ ?_
      · intro h1
        show ab_Z m_Mo_named _ _ _ 31 [_, _, _] [] _
        refine ab_go ok_Mo_named 1 rfl ?_
        show ab_Z m_Mo_named _ _ _ 32 [_, _, _] [_] _
        exact ab_rI ok_Mo_named rfl (fin)
      · intro h1
        show ab_Z m_Mo_named _ _ _ 12 [_, _, _] [] _
        exact absurd (lp_out _) h1
    · intro k hk ih s2 l2 k2 hR2 hl2 hl2e
      obtain ⟨q, hq⟩ : ∃ q, L[k]? = some q := ⟨L[k], List.getElem?_eq_getElem hk⟩
      obtain ⟨c1, c2, c3, c4⟩ := b3 k q hq
      rw [nI_succ k] at ih
      have htk : lHas (L.take (k + 1)) (nm m) = (lHas (L.take k) (nm m) || decide (q.1 = nm m)) := by
        rw [List.take_add_one, hq]
        exact lHas_add _ q _
      rw [htk] at ih
      refine ab_go ok_Mo_named 3 rfl ?_
      show ab_Z m_Mo_named _ _ _ 11 [_, _, _] [_, _] _
      rw [(k2 81 20 (by omega)).trans b1]
      refine ab_br ok_Mo_named rfl rfl ?_ ?_
      · intro h1
        show ab_Z m_Mo_named _ _ _ 31 [_, _, _] [] _
        exact absurd h1 (lp_in (by omega) hk)
      · intro h1
        show ab_Z m_Mo_named _ _ _ 12 [_, _, _] [] _
        refine ab_go ok_Mo_named 2 rfl ?_
        show ab_Z m_Mo_named _ _ _ 14 [_, _, _] [_] _
        rw [hR2.2.1]
        refine ab_go ok_Mo_named 1 rfl ?_
        show ab_Z m_Mo_named _ _ _ 15 [_, _, _] [] _
        refine ab_go ok_Mo_named 3 rfl ?_
        show ab_Z m_Mo_named _ _ _ 18 [_, _, _] [_, _] _
        refine ab_la ok_Mo_named rfl rfl (k := k) (by first | rfl | (simp only [LL1, LL2, LL3, LL4, LL5, LL6, LL7, LL8, LL10, LL15, LL18, LL20, LL21, LL22, LL23, LL24, LL32, LL39, LL40, LL130, LL420, pk_mul, nI_add]; done) | (simp only [LL1, LL2, LL3, LL4, LL5, LL6, LL7, LL8, LL10, LL15, LL18, LL20, LL21, LL22, LL23, LL24, LL32, LL39, LL40, LL130, LL420, pk_mul, nI_add]; congr 1; omega)) (by omega) (Nat.le_of_ble_eq_true rfl) ?_
        show ab_Z m_Mo_named _ _ _ 19 [_, _, _] [_] _
        refine ab_go ok_Mo_named 3 rfl ?_
        show ab_Z m_Mo_named _ _ _ 22 [_, _, _] [_, _, _] _
        refine ab_la ok_Mo_named rfl rfl (k := m) (by first | rfl | (simp only [LL1, LL2, LL3, LL4, LL5, LL6, LL7, LL8, LL10, LL15, LL18, LL20, LL21, LL22, LL23, LL24, LL32, LL39, LL40, LL130, LL420, pk_mul, nI_add]; done) | (simp only [LL1, LL2, LL3, LL4, LL5, LL6, LL7, LL8, LL10, LL15, LL18, LL20, LL21, LL22, LL23, LL24, LL32, LL39, LL40, LL130, LL420, pk_mul, nI_add]; congr 1; omega)) (by omega) (Nat.le_of_ble_eq_true rfl) ?_
        show ab_Z m_Mo_named _ _ _ 23 [_, _, _] [_, _] _
        rw [c1, (hT.1 m hgm).2.2.2 hK2]
        refine ab_go ok_Mo_named 1 rfl ?_
        show ab_Z m_Mo_named _ _ _ 24 [_, _, _] [_] _
        refine ab_br ok_Mo_named rfl rfl ?_ ?_
        · intro h2
          show ab_Z m_Mo_named _ _ _ 25 [_, _, _] [] _
          have h2' := (cd_eq (B := 27) (by decide) (by decide) c3.1 c3.2 hnw.1 hnw.2).mp (lcmp_eq.mp h2)
          refine ab_go ok_Mo_named 3 rfl ?_
          show ab_Z m_Mo_named _ _ _ 28 [_, _, _] [_, _, _] _
          refine ab_cl ok_Mo_named rfl [_, _, _] [] rfl ⟨_, _, rfl, rfl, Or.inl ⟨_, _, rfl, rfl⟩⟩ (Nat.le_of_ble_eq_true rfl) (t_Mo_wrong (d + 2) fm X s2 t (k2.T hT) hR2.2.1 hgm hl2 (c := 3) (by decide) (by decide) (by rw [hl2e]; split; unfold ltU; split; exact fun _ => Or.inr ⟨rfl, Nat.le_refl _⟩; exact fun z => Or.inl (hlq' z); exact fun z => Or.inl (hlq' z)) _ _ rfl rfl) ?_
          rintro _ _ ⟨rfl, s3, rfl, k3, hl3⟩
          show ab_Z m_Mo_named _ _ _ 29 [_, _, _] [] _
          refine ab_go ok_Mo_named 2 rfl ?_
          show ab_Z m_Mo_named _ _ _ 8 [_, _, _] [] _
          refine ih s3 _ (k2.tr (fun c j hc => k3 c j (fun z => hc ⟨z.1, by omega⟩))) (hR2.of (k3 81 11 (by omega)) (k3 81 13 (by omega)) (k3 81 14 (by omega))) hl3 ?_
          rw [decide_eq_true h2', Bool.or_true, if_pos rfl, hl2e]
          split
          · exact ltU_2 _ _ _ (by decide)
          · rfl
        · intro h2
          show ab_Z m_Mo_named _ _ _ 29 [_, _, _] [] _
          have h2' : ¬ q.1 = nm m := fun z => h2 (lcmp_eq.mpr ((cd_eq (B := 27) (by decide) (by decide) c3.1 c3.2 hnw.1 hnw.2).mpr z))
          refine ab_go ok_Mo_named 2 rfl ?_
          show ab_Z m_Mo_named _ _ _ 8 [_, _, _] [] _
          refine ih s2 l2 k2 hR2 hl2 ?_
          rw [decide_eq_false h2', Bool.or_false]
          exact hl2e
theorem t_Mo_endsName (hT : TM s t K P v nm) {R : Rs Nat} (hR : RdM s K P R) {n e N : Nat} (hn : ∀ m, R = .inl m → gdT K n ∧ K n = 2) (hN : s 81 20 = nI N) (hN11 : N < 11) (z y : Int32) (hz : z = nI e) (hy : ∀ m, R = .inl m → y = nI n) : ab_T g_Mo_endsName (d + 3) (0, 0) [.ref 81, .int y, .int z] (HA fm X s t) (fun r h => r = none ∧ ∃ s' t', h = HA fm X s' t' ∧ (∀ c k, ¬ (c = 81 ∧ (k = 11 ∨ k = 13 ∨ k = 14 ∨ k = 20)) → c ≠ 90 → s' c k = s c k) ∧ (∀ c, c ≠ 89 → t' c = t c) ∧ RdM s' K P (bnd R (eatT K 59)) ∧ ∀ m, bnd R (eatT K 59) = .inl m → ∃ s1, KJ s s1 ∧ s' = ab_up (ab_up s1 90 N (nI e)) 81 20 (nI (N + 1)) ∧ t' = ab_up t 89 N (lN (cdL 27 (nm n)))) := by
  subst hz
  refine ab_T_of (M := m_Mo_endsName) rfl rfl (Nat.le_of_ble_eq_true rfl) ?_
  show ab_Z m_Mo_endsName _ _ _ 0 [_, _, _] [] _
  refine ab_go ok_Mo_endsName 2 rfl ?_
  show ab_Z m_Mo_endsName _ _ _ 2 [_, _, _] [_, _] _
  refine ab_cl ok_Mo_endsName rfl [_, _] [] rfl ⟨_, _, rfl, rfl, Or.inl ⟨_, _, rfl, rfl⟩⟩ (Nat.le_of_ble_eq_true rfl) (t_Mo_must d fm X s t hT hR (w := 59) (by decide) (by decide) _ rfl) ?_
  rintro _ _ ⟨rfl, s1, rfl, k1, hR1⟩
  show ab_Z m_Mo_endsName _ _ _ 3 [_, _, _] [] _
  refine ab_go ok_Mo_endsName 2 rfl ?_
  show ab_Z m_Mo_endsName _ _ _ 5 [_, _, _] [_] _
  cases hq : bnd R (eatT K 59) with
  | inr e =>
    rw [hq] at hR1
    rw [hR1.1]
    refine ab_br ok_Mo_endsName rfl rfl ?_ ?_
    · intro h1
      show ab_Z m_Mo_endsName _ _ _ 7 [_, _, _] [] _
      exact absurd h1 (fl_1 hR1.2.2.1).2.1
    · intro h1
      show ab_Z m_Mo_endsName _ _ _ 6 [_, _, _] [] _
      exact ab_rV ok_Mo_endsName rfl (⟨rfl, s1, t, rfl, fun c k h1 h2 => k1 c k (fun z => h1 ⟨z.1, by omega⟩), fun _ _ => rfl, hR1, fun m hm => by cases hm⟩)
  | inl n1 =>
    rw [hq] at hR1
    obtain ⟨m, hm, hm1⟩ := bnd_in hq
    obtain ⟨hg, hK2⟩ := hn m hm
    have hn4 := hg.1
    rw [hR1.2.1]
    refine ab_go ok_Mo_endsName 1 rfl ?_
    show ab_Z m_Mo_endsName _ _ _ 7 [_, _, _] [] _
    refine ab_go ok_Mo_endsName 7 rfl ?_
    show ab_Z m_Mo_endsName _ _ _ 14 [_, _, _] [_, _, _, _] _
    have hN1 : s1 81 20 = nI N := (k1 81 20 (by omega)).trans hN
    rw [hN1, hy m hm]
    refine ab_la ok_Mo_endsName rfl rfl (k := n) (by first | rfl | (simp only [LL1, LL2, LL3, LL4, LL5, LL6, LL7, LL8, LL10, LL15, LL18, LL20, LL21, LL22, LL23, LL24, LL32, LL39, LL40, LL130, LL420, pk_mul, nI_add]; done) | (simp only [LL1, LL2, LL3, LL4, LL5, LL6, LL7, LL8, LL10, LL15, LL18, LL20, LL21, LL22, LL23, LL24, LL32, LL39, LL40, LL130, LL420, pk_mul, nI_add]; congr 1; omega)) (by omega) (Nat.le_of_ble_eq_true rfl) ?_
    show ab_Z m_Mo_endsName _ _ _ 15 [_, _, _] [_, _, _] _
    rw [(hT.1 n hg).2.2.2 hK2]
    refine ab_ls ok_Mo_endsName rfl rfl (k := N) (by first | rfl | (simp only [LL1, LL2, LL3, LL4, LL5, LL6, LL7, LL8, LL10, LL15, LL18, LL20, LL21, LL22, LL23, LL24, LL32, LL39, LL40, LL130, LL420, pk_mul, nI_add]; done) | (simp only [LL1, LL2, LL3, LL4, LL5, LL6, LL7, LL8, LL10, LL15, LL18, LL20, LL21, LL22, LL23, LL24, LL32, LL39, LL40, LL130, LL420, pk_mul, nI_add]; congr 1; omega)) (by omega) (Nat.le_of_ble_eq_true rfl) ?_
    show ab_Z m_Mo_endsName _ _ _ 16 [_, _, _] [] _
    refine ab_go ok_Mo_endsName 5 rfl ?_
    show ab_Z m_Mo_endsName _ _ _ 21 [_, _, _] [_, _, _] _
    rw [hN1]
    refine ab_is ok_Mo_endsName rfl rfl (k := N) (by first | rfl | (simp only [LL1, LL2, LL3, LL4, LL5, LL6, LL7, LL8, LL10, LL15, LL18, LL20, LL21, LL22, LL23, LL24, LL32, LL39, LL40, LL130, LL420, pk_mul, nI_add]; done) | (simp only [LL1, LL2, LL3, LL4, LL5, LL6, LL7, LL8, LL10, LL15, LL18, LL20, LL21, LL22, LL23, LL24, LL32, LL39, LL40, LL130, LL420, pk_mul, nI_add]; congr 1; omega)) (by omega) (Nat.le_of_ble_eq_true rfl) ?_
    show ab_Z m_Mo_endsName _ _ _ 22 [_, _, _] [] _
    refine ab_go ok_Mo_endsName 6 rfl ?_
    show ab_Z m_Mo_endsName _ _ _ 28 [_, _, _] [] _
    rw [show ab_up s1 90 N (nI e) 81 20 = nI N from by rw [ab_up_o (by decide)]; exact hN1, ← nI_succ]
    have hk : ∀ c k, ¬ (c = 81 ∧ (k = 11 ∨ k = 13 ∨ k = 14 ∨ k = 20)) → c ≠ 90 → ab_up (ab_up s1 90 N (nI e)) 81 20 (nI (N + 1)) c k = s c k := fun c k h1 h2 => by
      by_cases hc : c = 81
      · subst hc
        rw [ab_up_n (by omega), ab_up_o (by decide)]
        exact k1 81 k (by omega)
      · rw [ab_up_o hc, ab_up_o h2]
        exact k1 c k (by omega)
    have hR2 : RdM (ab_up (ab_up s1 90 N (nI e)) 81 20 (nI (N + 1))) K P (.inl n1) := hR1.of (by rw [ab_up_n (by decide), ab_up_o (by decide)]) (by rw [ab_up_n (by decide), ab_up_o (by decide)]) (by rw [ab_up_n (by decide), ab_up_o (by decide)])
    exact ab_rV ok_Mo_endsName rfl (⟨rfl, _, _, rfl, hk, fun c hc => ab_up_o hc, hR2, fun m hm => ⟨s1, k1, rfl, rfl⟩⟩)
theorem t_Mo_known (hT : TM s t K P v nm) {R : Rs Nat} (hR : RdM s K P R) {l : Nat × Nat} (hl : LtM s P l) (hlq : ∀ n, R = .inl n → LtQ l n) {x : Tx} (hN : NmM s t x) (h11 : xNc x + xNd x ≤ 11) : ab_T g_Mo_known (d + 3) (0, 0) [.ref 81] (HA fm X s t) (fun r h => ∃ y s', r = some (.int y) ∧ h = HA fm X s' t ∧ KN s s' ∧ RdM s' K P (mpT Prod.fst (bnd R fun n => dnT K nm x n l)) ∧ (∃ l', LtM s' P l') ∧ ∀ a, (bnd R fun n => dnT K nm x n l) = .inl a → y = a.2.1 ∧ LtM s' P a.2.2 ∧ LtQ a.2.2 a.1) := by
  generalize hPo : (fun r h => ∃ y s', r = some (.int y) ∧ h = HA fm X s' t ∧ KN s s' ∧ RdM s' K P (mpT Prod.fst (bnd R fun n => dnT K nm x n l)) ∧ (∃ l', LtM s' P l') ∧ ∀ a, (bnd R fun n => dnT K nm x n l) = .inl a → y = a.2.1 ∧ LtM s' P a.2.2 ∧ LtQ a.2.2 a.1 : Option Value → ab_H → Prop) = Po
  obtain ⟨m, m1, m2, m3⟩ := hR.pos
  have hmp : mpT Prod.fst (bnd R fun n => dnT K nm x n l) = bnd R (eatT K 2) := by
    cases R with
    | inr e => rfl
    | inl n =>
      show mpT Prod.fst (dnT K nm x n l) = eatT K 2 n
      unfold dnT
      cases eatT K 2 n <;> rfl
  rw [hmp] at hPo
  refine ab_T_of (M := m_Mo_known) rfl rfl (Nat.le_of_ble_eq_true rfl) ?_
  show ab_Z m_Mo_known _ _ _ 0 [_, _, _] [] _
  refine ab_go ok_Mo_known 5 rfl ?_
  show ab_Z m_Mo_known _ _ _ 5 [_, _, _] [_, _] _
  rw [m2]
  refine ab_cl ok_Mo_known rfl [_, _] [] rfl ⟨_, _, rfl, rfl, Or.inl ⟨_, _, rfl, rfl⟩⟩ (Nat.le_of_ble_eq_true rfl) (t_Mo_must d fm X s t hT hR (w := 2) (by decide) (by decide) _ rfl) ?_
  rintro _ _ ⟨rfl, s1, rfl, k1, hR1⟩
  show ab_Z m_Mo_known _ _ _ 6 [_, _, _] [] _
  refine ab_go ok_Mo_known 2 rfl ?_
  show ab_Z m_Mo_known _ _ _ 8 [_, _, _] [_] _
  cases hq : bnd R (eatT K 2) with
  | inr e =>
    rw [hq] at hR1 hmp
    have fin : Po (some (.int (-1))) (HA fm X s1 t) := by
      rw [← hPo]
      refine ⟨_, s1, rfl, rfl, k1.n, by rw [hq]; exact hR1, ⟨l, k1.lt hl⟩, fun a ha => ?_⟩
      rw [ha] at hmp
      cases hmp
    rw [hR1.1]
    refine ab_br ok_Mo_known rfl rfl ?_ ?_
    · intro h1
      show ab_Z m_Mo_known _ _ _ 11 [_, _, _] [] _
      exact absurd h1 (fl_1 hR1.2.2.1).2.1
    · intro h1
      show ab_Z m_Mo_known _ _ _ 9 [_, _, _] [] _
      refine ab_go ok_Mo_known 1 rfl ?_
      show ab_Z m_Mo_known _ _ _ 10 [_, _, _] [_] _
      exact ab_rI ok_Mo_known rfl (fin)
  | inl n1 =>
    rw [hq] at hR1
    obtain ⟨n, hn, hn1⟩ := bnd_in hq
    have hmn := m3 n hn
    subst hmn
    have hK2 : K m = 2 := by
      unfold eatT at hn1
      by_cases h : K m = 2
      · exact h
      · rw [if_neg h] at hn1; cases hn1
    have hup := eat_up hn1
    have hgm : gdT K m := by rw [hn] at hR; exact hR.2.2
    have hlq' := hlq m hn
    obtain ⟨L, b1, b2, b3, b4, b5⟩ := hN
    have hnw := hT.2.1.2.2 m hK2
    have hdn : (bnd R fun n => dnT K nm x n l) = .inl (n1, deedX x (nm m), if deedX x (nm m) = -1 then ltU l 4 m else l) := by
      rw [hn, bnd_l]
      unfold dnT
      rw [hn1]
      rfl
    rw [hdn] at hPo
    rw [hR1.2.1]
    refine ab_go ok_Mo_known 1 rfl ?_
    show ab_Z m_Mo_known _ _ _ 11 [_, _, _] [] _
    refine ab_go ok_Mo_known 2 rfl ?_
    show ab_Z m_Mo_known _ _ _ 13 [_, _, _] [] _
    have main := lp_dn L.length (fun k => (L.take k).find? (fun q => decide (q.1 = nm m) && decide (q.2 < 10)) = none → ab_Z m_Mo_known (d + 3) (0, 0) Po 13 [some (.ref 81), some (.int (nI m)), some (.int (nI k))] [] (HA fm X s1 t)) ?_ ?_
    · exact main rfl
    · intro hno
      rw [List.take_length] at hno
      have hde : deedX x (nm m) = -1 := by
        rw [b5]
        unfold lDeed
        rw [hno]
      refine ab_go ok_Mo_known 3 rfl ?_
      show ab_Z m_Mo_known _ _ _ 16 [_, _, _] [_, _] _
      rw [(k1 81 20 (by omega)).trans b1]
      refine ab_br ok_Mo_known rfl rfl ?_ ?_
      · intro h1
        show ab_Z m_Mo_known _ _ _ 40 [_, _, _] [] _
        refine ab_go ok_Mo_known 3 rfl ?_
        show ab_Z m_Mo_known _ _ _ 43 [_, _, _] [_, _, _] _
        refine ab_cl ok_Mo_known rfl [_, _, _] [] rfl ⟨_, _, rfl, rfl, Or.inl ⟨_, _, rfl, rfl⟩⟩ (Nat.le_of_ble_eq_true rfl) (t_Mo_wrong (d + 2) fm X s1 t (k1.n.T hT) hR1.2.1 hgm (k1.lt hl) (c := 4) (by decide) (by decide) (fun z => Or.inl (hlq' z)) _ _ rfl rfl) ?_
        rintro _ _ ⟨rfl, s3, rfl, k3, hl3⟩
        show ab_Z m_Mo_known _ _ _ 44 [_, _, _] [] _
        refine ab_go ok_Mo_known 1 rfl ?_
        show ab_Z m_Mo_known _ _ _ 45 [_, _, _] [_] _
        have hLq : LtQ (ltU l 4 m) n1 := fun z => by
          unfold ltU at z ⊢
          split
          · exact hup
          · rename_i h
            have := hlq' h
            omega
        have fin : Po (some (.int (-1))) (HA fm X s3 t) := by
          rw [← hPo]
          refine ⟨_, s3, rfl, rfl, k1.n.tr (fun c j hc => k3 c j (fun z => hc ⟨z.1, by omega⟩)), by rw [hq]; exact hR1.of (k3 81 11 (by omega)) (k3 81 13 (by omega)) (k3 81 14 (by omega)), ⟨_, hl3⟩, fun a ha => ?_⟩
          cases ha
          refine ⟨hde.symm, ?_, ?_⟩
          · rw [if_pos hde]; exact hl3
          · rw [if_pos hde]; exact hLq
        exact ab_rI ok_Mo_known rfl (fin)
      · intro h1
        show ab_Z m_Mo_known _ _ _ 17 [_, _, _] [] _
        exact absurd (lp_out _) h1
    · intro k hk ih hno
      obtain ⟨q, hq'⟩ : ∃ q, L[k]? = some q := ⟨L[k], List.getElem?_eq_getElem hk⟩
      obtain ⟨c1, c2, c3, c4⟩ := b3 k q hq'
      rw [nI_succ k] at ih
      have htk : L.take (k + 1) = L.take k ++ [q] := by rw [List.take_add_one, hq']; rfl
      rw [htk, List.find?_append, hno, Option.none_or] at ih
      have hcut : L = L.take k ++ q :: L.drop (k + 1) := by
        have h1 := (List.take_append_drop (k + 1) L).symm
        rw [htk, List.append_assoc] at h1
        exact h1
      refine ab_go ok_Mo_known 3 rfl ?_
      show ab_Z m_Mo_known _ _ _ 16 [_, _, _] [_, _] _
      rw [(k1 81 20 (by omega)).trans b1]
      refine ab_br ok_Mo_known rfl rfl ?_ ?_
      · intro h1
        show ab_Z m_Mo_known _ _ _ 40 [_, _, _] [] _
        exact absurd h1 (lp_in (by omega) hk)
      · intro h1
        show ab_Z m_Mo_known _ _ _ 17 [_, _, _] [] _
        refine ab_go ok_Mo_known 3 rfl ?_
        show ab_Z m_Mo_known _ _ _ 20 [_, _, _] [_, _] _
        refine ab_la ok_Mo_known rfl rfl (k := k) (by first | rfl | (simp only [LL1, LL2, LL3, LL4, LL5, LL6, LL7, LL8, LL10, LL15, LL18, LL20, LL21, LL22, LL23, LL24, LL32, LL39, LL40, LL130, LL420, pk_mul, nI_add]; done) | (simp only [LL1, LL2, LL3, LL4, LL5, LL6, LL7, LL8, LL10, LL15, LL18, LL20, LL21, LL22, LL23, LL24, LL32, LL39, LL40, LL130, LL420, pk_mul, nI_add]; congr 1; omega)) (by omega) (Nat.le_of_ble_eq_true rfl) ?_
        show ab_Z m_Mo_known _ _ _ 21 [_, _, _] [_] _
        refine ab_go ok_Mo_known 3 rfl ?_
        show ab_Z m_Mo_known _ _ _ 24 [_, _, _] [_, _, _] _
        refine ab_la ok_Mo_known rfl rfl (k := m) (by first | rfl | (simp only [LL1, LL2, LL3, LL4, LL5, LL6, LL7, LL8, LL10, LL15, LL18, LL20, LL21, LL22, LL23, LL24, LL32, LL39, LL40, LL130, LL420, pk_mul, nI_add]; done) | (simp only [LL1, LL2, LL3, LL4, LL5, LL6, LL7, LL8, LL10, LL15, LL18, LL20, LL21, LL22, LL23, LL24, LL32, LL39, LL40, LL130, LL420, pk_mul, nI_add]; congr 1; omega)) (by omega) (Nat.le_of_ble_eq_true rfl) ?_
        show ab_Z m_Mo_known _ _ _ 25 [_, _, _] [_, _] _
        rw [c1, (hT.1 m hgm).2.2.2 hK2]
        refine ab_go ok_Mo_known 1 rfl ?_
        show ab_Z m_Mo_known _ _ _ 26 [_, _, _] [_] _
        refine ab_br ok_Mo_known rfl rfl ?_ ?_
        · intro h2
          show ab_Z m_Mo_known _ _ _ 27 [_, _, _] [] _
          have h2' := (cd_eq (B := 27) (by decide) (by decide) c3.1 c3.2 hnw.1 hnw.2).mp (lcmp_eq.mp h2)
          refine ab_go ok_Mo_known 3 rfl ?_
          show ab_Z m_Mo_known _ _ _ 30 [_, _, _] [_, _] _
          refine ab_ia ok_Mo_known rfl rfl (k := k) (by first | rfl | (simp only [LL1, LL2, LL3, LL4, LL5, LL6, LL7, LL8, LL10, LL15, LL18, LL20, LL21, LL22, LL23, LL24, LL32, LL39, LL40, LL130, LL420, pk_mul, nI_add]; done) | (simp only [LL1, LL2, LL3, LL4, LL5, LL6, LL7, LL8, LL10, LL15, LL18, LL20, LL21, LL22, LL23, LL24, LL32, LL39, LL40, LL130, LL420, pk_mul, nI_add]; congr 1; omega)) (by omega) (Nat.le_of_ble_eq_true rfl) ?_
          show ab_Z m_Mo_known _ _ _ 31 [_, _, _] [_] _
          rw [k1.br 90 (by decide), c2]
          refine ab_go ok_Mo_known 1 rfl ?_
          show ab_Z m_Mo_known _ _ _ 32 [_, _, _] [_, _] _
          refine ab_br ok_Mo_known rfl rfl ?_ ?_
          · intro h3
            show ab_Z m_Mo_known _ _ _ 38 [_, _, _] [] _
            have h3' := (nI_leI (show 10 < 2 ^ 31 by decide) (show q.2 < 2 ^ 31 by omega)).mp h3
            refine ab_go ok_Mo_known 2 rfl ?_
            show ab_Z m_Mo_known _ _ _ 13 [_, _, _] [] _
            refine ih ?_
            rw [List.find?_cons, show (decide (q.1 = nm m) && decide (q.2 < 10)) = false from by rw [decide_eq_false (show ¬ q.2 < 10 by omega), Bool.and_false]]
            rfl
          · intro h3
            show ab_Z m_Mo_known _ _ _ 33 [_, _, _] [] _
            have h3' : q.2 < 10 := by
              rcases Nat.lt_or_ge q.2 10 with h | h
              · exact h
              · exact absurd ((nI_leI (show 10 < 2 ^ 31 by decide) (show q.2 < 2 ^ 31 by omega)).mpr h) h3
            refine ab_go ok_Mo_known 3 rfl ?_
            show ab_Z m_Mo_known _ _ _ 36 [_, _, _] [_, _] _
            refine ab_ia ok_Mo_known rfl rfl (k := k) (by first | rfl | (simp only [LL1, LL2, LL3, LL4, LL5, LL6, LL7, LL8, LL10, LL15, LL18, LL20, LL21, LL22, LL23, LL24, LL32, LL39, LL40, LL130, LL420, pk_mul, nI_add]; done) | (simp only [LL1, LL2, LL3, LL4, LL5, LL6, LL7, LL8, LL10, LL15, LL18, LL20, LL21, LL22, LL23, LL24, LL32, LL39, LL40, LL130, LL420, pk_mul, nI_add]; congr 1; omega)) (by omega) (Nat.le_of_ble_eq_true rfl) ?_
            show ab_Z m_Mo_known _ _ _ 37 [_, _, _] [_] _
            rw [k1.br 90 (by decide), c2]
            have hde : deedX x (nm m) = nI q.2 := by
              rw [b5]
              unfold lDeed
              rw [hcut, List.find?_append, hno, Option.none_or, List.find?_cons, show (decide (q.1 = nm m) && decide (q.2 < 10)) = true from by rw [decide_eq_true h2', decide_eq_true h3']; rfl]
            have hne : ¬ nI q.2 = -1 := by
              have ne : ∀ j, j < 11 → ¬ nI j = -1 := by decide
              exact ne q.2 (by omega)
            have fin : Po (some (.int (nI q.2))) (HA fm X s1 t) := by
              rw [← hPo]
              refine ⟨_, s1, rfl, rfl, k1.n, by rw [hq]; exact hR1, ⟨l, k1.lt hl⟩, fun a ha => ?_⟩
              cases ha
              refine ⟨hde.symm, ?_, ?_⟩
              · rw [hde, if_neg hne]; exact k1.lt hl
              · rw [hde, if_neg hne]; exact fun z => by have := hlq' z; show l.2 < n1; omega
            exact ab_rI ok_Mo_known rfl (fin)
        · intro h2
          show ab_Z m_Mo_known _ _ _ 38 [_, _, _] [] _
          have h2' : ¬ q.1 = nm m := fun z => h2 (lcmp_eq.mpr ((cd_eq (B := 27) (by decide) (by decide) c3.1 c3.2 hnw.1 hnw.2).mpr z))
          refine ab_go ok_Mo_known 2 rfl ?_
          show ab_Z m_Mo_known _ _ _ 13 [_, _, _] [] _
          refine ih ?_
          rw [List.find?_cons, show (decide (q.1 = nm m) && decide (q.2 < 10)) = false from by rw [decide_eq_false h2', Bool.false_and]]
          rfl
end

