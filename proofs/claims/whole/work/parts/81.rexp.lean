theorem rk_need : ∀ k, k < 277 → kVb k = true → (268 ≤ k → rkF k = k - 236) ∧ (¬ 268 ≤ k → rkF k < 32) := by decide +kernel
section
variable (d : Nat) (fm : Value) (X : Nat × (Nat → Int32)) (s : Nat → Nat → Int32) (t : Nat → Nat → Int64)
variable {K P v : Nat → Nat} {nm : Nat → List Nat}
theorem t_Mo_unit (hT : TM s t K P v nm) {R : Rs Nat} (hR : RdM s K P R) {c0 ce o : Nat} {C : List Ins} {w : List Nat} (he : ce ≤ 840) (hX : ∀ n, R = .inl n → XP s c0 C w o ∧ c0 + C.length < ce) : ab_T g_Mo_unit (d + 2) (0, 0) [.ref 81] (HA fm X s t) (fun r h => r = none ∧ ∃ s', h = HA fm X s' t ∧ KX c0 ce s s' ∧ RdM s' K P (mpT Prod.fst (bnd R fun n => unA K v n (.inr (1, n)))) ∧ ∀ q, (bnd R fun n => unA K v n (.inr (1, n))) = .inl q → XP s' c0 (C ++ q.2) w o) := by
  generalize hPo : (fun r h => r = none ∧ ∃ s', h = HA fm X s' t ∧ KX c0 ce s s' ∧ RdM s' K P (mpT Prod.fst (bnd R fun n => unA K v n (.inr (1, n)))) ∧ ∀ q, (bnd R fun n => unA K v n (.inr (1, n))) = .inl q → XP s' c0 (C ++ q.2) w o : Option Value → ab_H → Prop) = Po
  have bad : (∀ n, R = .inl n → K n ≠ 3 ∧ ¬ 268 ≤ K n) → ab_Z m_Mo_unit (d + 2) (0, 0) Po 45 [some (.ref 81)] [] (HA fm X s t) := by
    intro h1
    refine ab_go ok_Mo_unit 2 rfl ?_
    show ab_Z m_Mo_unit _ _ _ 47 [_] [_, _] _
    refine ab_cl ok_Mo_unit rfl [_, _] [] rfl ⟨_, _, rfl, rfl, Or.inl ⟨_, _, rfl, rfl⟩⟩ (Nat.le_of_ble_eq_true rfl) (t_Mo_fail (d + 1) fm X s t hT hR (c := 1) (by omega) _ rfl) ?_
    rintro _ _ ⟨rfl, s1, rfl, k1, hR1, -⟩
    show ab_Z m_Mo_unit _ _ _ 48 [_] [] _
    have hb : (bnd R fun n => unA K v n (.inr (1, n))) = bnd R fun n => .inr (1, n) := bnd_cg (fun n hn => by
      unfold unA
      rw [if_neg (h1 n hn).1, if_neg (h1 n hn).2, ite_self])
    have fin : Po none (HA fm X s1 t) := by
      rw [← hPo]
      refine ⟨rfl, s1, rfl, k1.x, ?_, fun q hq => ?_⟩
      · rw [hb]
        cases R <;> exact hR1
      · rw [hb] at hq
        cases R <;> cases hq
    exact ab_rV ok_Mo_unit rfl (fin)
  cases R with
  | inr e =>
    refine ab_T_of (M := m_Mo_unit) rfl rfl (Nat.le_of_ble_eq_true rfl) ?_
    show ab_Z m_Mo_unit _ _ _ 0 [_] [] _
    refine ab_go ok_Mo_unit 2 rfl ?_
    show ab_Z m_Mo_unit _ _ _ 2 [_] [_, _] _
    refine ab_cl ok_Mo_unit rfl [_, _] [] rfl ⟨_, _, rfl, rfl, Or.inl ⟨_, _, rfl, rfl⟩⟩ (Nat.le_of_ble_eq_true rfl) (t_Mo_is (d + 1) fm X s t hT hR (w := 3) (by decide) _ rfl) ?_
    rintro _ _ ⟨rfl, rfl⟩
    show ab_Z m_Mo_unit _ _ _ 3 [_] [_] _
    refine ab_go ok_Mo_unit 1 rfl ?_
    show ab_Z m_Mo_unit _ _ _ 15 [_] [] _
    refine ab_go ok_Mo_unit 2 rfl ?_
    show ab_Z m_Mo_unit _ _ _ 17 [_] [_] _
    rw [hR.1]
    refine ab_br ok_Mo_unit rfl rfl ?_ ?_
    · intro h1
      show ab_Z m_Mo_unit _ _ _ 18 [_] [] _
      exact absurd h1 (fl_1 hR.2.2.1).1
    · intro h1
      show ab_Z m_Mo_unit _ _ _ 45 [_] [] _
      exact bad (fun n hn => by cases hn)
  | inl n =>
    obtain ⟨a1, a2, a3⟩ := hR
    obtain ⟨hX1, hb⟩ := hX n rfl
    have hkn := hT.2.2.1 n
    have hk7 := kV_lt hkn
    have hn4 := a3.1
    have fin : ∀ (z : Ins) (s1 s2 : Nat → Nat → Int32), unA K v n (.inr (1, n)) = bnd (goT n) (fun t1 => .inl (t1, [z])) → s1 = emS s (c0 + C.length) (nI z.1) (nI z.2) → KJ s1 s2 → RdM s2 K P (bnd (.inl n) goT) → Po none (HA fm X s2 t) := fun z s1 s2 hu h1 k2 hR2 => by
      rw [← hPo]
      refine ⟨rfl, s2, rfl, ?_, ?_, fun q hq => ?_⟩
      · refine KX.tr ?_ k2.x
        rw [h1]
        exact emS_k s (by omega) hb _ _
      · rw [bnd_l, hu]
        rw [bnd_l] at hR2
        cases hg : goT n with
        | inl n1 => rw [hg] at hR2; exact hR2
        | inr e => rw [hg] at hR2; exact hR2
      · rw [bnd_l, hu] at hq
        obtain ⟨n1, e1, e2⟩ := bnd_in hq
        cases e2
        refine XP.j k2 ?_
        rw [h1]
        exact hX1.add z.1 z.2
    have em : ∀ z : Ins, KX c0 ce s (emS s (c0 + C.length) (nI z.1) (nI z.2)) ∧ RdM (emS s (c0 + C.length) (nI z.1) (nI z.2)) K P (.inl n) := fun z => by
      have e : ∀ k, k ≠ 42 → emS s (c0 + C.length) (nI z.1) (nI z.2) 81 k = s 81 k := fun k hk => by unfold emS; rw [ab_up_n hk, ab_up_o (by decide), ab_up_o (by decide)]
      exact ⟨emS_k s (by omega) hb _ _, (e 11 (by decide)).trans a1, (e 13 (by decide)).trans a2, a3⟩
    refine ab_T_of (M := m_Mo_unit) rfl rfl (Nat.le_of_ble_eq_true rfl) ?_
    show ab_Z m_Mo_unit _ _ _ 0 [_] [] _
    refine ab_go ok_Mo_unit 2 rfl ?_
    show ab_Z m_Mo_unit _ _ _ 2 [_] [_, _] _
    refine ab_cl ok_Mo_unit rfl [_, _] [] rfl ⟨_, _, rfl, rfl, Or.inl ⟨_, _, rfl, rfl⟩⟩ (Nat.le_of_ble_eq_true rfl) (t_Mo_is (d + 1) fm X s t hT (R := .inl n) ⟨a1, a2, a3⟩ (w := 3) (by decide) _ rfl) ?_
    rintro _ _ ⟨rfl, rfl⟩
    show ab_Z m_Mo_unit _ _ _ 3 [_] [_] _
    refine ab_br ok_Mo_unit rfl rfl ?_ ?_
    · intro h1
      show ab_Z m_Mo_unit _ _ _ 15 [_] [] _
      have h3 : ¬ K n = 3 := of_decide_eq_false (bB_0.mp h1)
      refine ab_go ok_Mo_unit 2 rfl ?_
      show ab_Z m_Mo_unit _ _ _ 17 [_] [_] _
      rw [a2]
      refine ab_go ok_Mo_unit 1 rfl ?_
      show ab_Z m_Mo_unit _ _ _ 18 [_] [] _
      refine ab_go ok_Mo_unit 4 rfl ?_
      show ab_Z m_Mo_unit _ _ _ 22 [_] [_, _] _
      rw [a1]
      refine ab_ia ok_Mo_unit rfl rfl (k := n) (by first | rfl | (simp only [LL1, LL2, LL3, LL4, LL5, LL6, LL7, LL8, LL10, LL15, LL18, LL20, LL21, LL22, LL23, LL24, LL32, LL39, LL40, LL130, LL420, pk_mul, nI_add]; done) | (simp only [LL1, LL2, LL3, LL4, LL5, LL6, LL7, LL8, LL10, LL15, LL18, LL20, LL21, LL22, LL23, LL24, LL32, LL39, LL40, LL130, LL420, pk_mul, nI_add]; congr 1; omega)) (by omega) (Nat.le_of_ble_eq_true rfl) ?_
      show ab_Z m_Mo_unit _ _ _ 23 [_] [_] _
      rw [(hT.1 n a3).1]
      refine ab_go ok_Mo_unit 1 rfl ?_
      show ab_Z m_Mo_unit _ _ _ 24 [_] [_, _] _
      obtain ⟨r1, r2⟩ := rk_need _ hk7 hkn
      have rl := rk_lt _ hkn
      refine ab_br ok_Mo_unit rfl rfl ?_ ?_
      · intro h2
        show ab_Z m_Mo_unit _ _ _ 45 [_] [] _
        have h2' := (nI_ltI (show rkF (K n) < 2 ^ 31 by omega) (show 32 < 2 ^ 31 by decide)).mp h2
        refine bad (fun m hm => ?_)
        cases hm
        exact ⟨h3, fun z => by have := r1 z; omega⟩
      · intro h2
        show ab_Z m_Mo_unit _ _ _ 25 [_] [] _
        have h2' : 268 ≤ K n := by
          rcases Nat.lt_or_ge (K n) 268 with h | h
          · exact absurd ((nI_ltI (show rkF (K n) < 2 ^ 31 by omega) (show 32 < 2 ^ 31 by decide)).mpr (r2 (by omega))) h2
          · exact h
        refine ab_go ok_Mo_unit 4 rfl ?_
        show ab_Z m_Mo_unit _ _ _ 29 [_] [_, _] _
        rw [a1]
        refine ab_ia ok_Mo_unit rfl rfl (k := n) (by first | rfl | (simp only [LL1, LL2, LL3, LL4, LL5, LL6, LL7, LL8, LL10, LL15, LL18, LL20, LL21, LL22, LL23, LL24, LL32, LL39, LL40, LL130, LL420, pk_mul, nI_add]; done) | (simp only [LL1, LL2, LL3, LL4, LL5, LL6, LL7, LL8, LL10, LL15, LL18, LL20, LL21, LL22, LL23, LL24, LL32, LL39, LL40, LL130, LL420, pk_mul, nI_add]; congr 1; omega)) (by omega) (Nat.le_of_ble_eq_true rfl) ?_
        show ab_Z m_Mo_unit _ _ _ 30 [_] [_] _
        rw [(hT.1 n a3).1]
        refine ab_go ok_Mo_unit 1 rfl ?_
        show ab_Z m_Mo_unit _ _ _ 31 [_] [_, _] _
        refine ab_br ok_Mo_unit rfl rfl ?_ ?_
        · intro h4
          show ab_Z m_Mo_unit _ _ _ 45 [_] [] _
          exact absurd ((nI_ltI (show 40 < 2 ^ 31 by decide) (show rkF (K n) < 2 ^ 31 by omega)).mp h4) (by omega)
        · intro h4
          show ab_Z m_Mo_unit _ _ _ 32 [_] [] _
          refine ab_go ok_Mo_unit 6 rfl ?_
          show ab_Z m_Mo_unit _ _ _ 38 [_] [_, _, _, _] _
          rw [a1]
          refine ab_ia ok_Mo_unit rfl rfl (k := n) (by first | rfl | (simp only [LL1, LL2, LL3, LL4, LL5, LL6, LL7, LL8, LL10, LL15, LL18, LL20, LL21, LL22, LL23, LL24, LL32, LL39, LL40, LL130, LL420, pk_mul, nI_add]; done) | (simp only [LL1, LL2, LL3, LL4, LL5, LL6, LL7, LL8, LL10, LL15, LL18, LL20, LL21, LL22, LL23, LL24, LL32, LL39, LL40, LL130, LL420, pk_mul, nI_add]; congr 1; omega)) (by omega) (Nat.le_of_ble_eq_true rfl) ?_
          show ab_Z m_Mo_unit _ _ _ 39 [_] [_, _, _] _
          rw [(hT.1 n a3).1]
          refine ab_go ok_Mo_unit 2 rfl ?_
          show ab_Z m_Mo_unit _ _ _ 41 [_] [_, _, _] _
          rw [show (32 : Int32) = nI 32 from rfl, pk_sub (show 32 ≤ rkF (K n) by have := r1 h2'; omega), show rkF (K n) - 32 = K n - 268 by have := r1 h2'; omega]
          refine ab_cl ok_Mo_unit rfl [_, _, _] [] rfl ⟨_, _, rfl, rfl, Or.inl ⟨_, _, rfl, rfl⟩⟩ (Nat.le_of_ble_eq_true rfl) (t_Mo_emit (d + 1) fm X s t hX1.1 (by omega) _ _) ?_
          rintro _ _ ⟨rfl, rfl⟩
          show ab_Z m_Mo_unit _ _ _ 42 [_] [] _
          refine ab_go ok_Mo_unit 1 rfl ?_
          show ab_Z m_Mo_unit _ _ _ 43 [_] [_] _
          refine ab_cl ok_Mo_unit rfl [_] [] rfl ⟨_, _, rfl, rfl, Or.inl ⟨_, _, rfl, rfl⟩⟩ (Nat.le_of_ble_eq_true rfl) (t_Mo_goesOn d fm X _ t ((em (1, K n - 268)).1.T hT) (em (1, K n - 268)).2 (fun j hj => by cases hj; omega)) ?_
          rintro _ _ ⟨rfl, s2, rfl, k2, hR2⟩
          show ab_Z m_Mo_unit _ _ _ 44 [_] [] _
          refine ab_go ok_Mo_unit 1 rfl ?_
          show ab_Z m_Mo_unit _ _ _ 48 [_] [] _
          have hf := fin (1, K n - 268) _ s2 (by unfold unA; rw [if_neg h3, if_pos h2']) rfl k2 hR2
          exact ab_rV ok_Mo_unit rfl (hf)
    · intro h1
      show ab_Z m_Mo_unit _ _ _ 4 [_] [] _
      have h3 : K n = 3 := of_decide_eq_true (bB_n0 h1)
      refine ab_go ok_Mo_unit 6 rfl ?_
      show ab_Z m_Mo_unit _ _ _ 10 [_] [_, _, _, _] _
      rw [a1]
      refine ab_ia ok_Mo_unit rfl rfl (k := n) (by first | rfl | (simp only [LL1, LL2, LL3, LL4, LL5, LL6, LL7, LL8, LL10, LL15, LL18, LL20, LL21, LL22, LL23, LL24, LL32, LL39, LL40, LL130, LL420, pk_mul, nI_add]; done) | (simp only [LL1, LL2, LL3, LL4, LL5, LL6, LL7, LL8, LL10, LL15, LL18, LL20, LL21, LL22, LL23, LL24, LL32, LL39, LL40, LL130, LL420, pk_mul, nI_add]; congr 1; omega)) (by omega) (Nat.le_of_ble_eq_true rfl) ?_
      show ab_Z m_Mo_unit _ _ _ 11 [_] [_, _, _] _
      rw [(hT.1 n a3).2.2.1 h3]
      refine ab_cl ok_Mo_unit rfl [_, _, _] [] rfl ⟨_, _, rfl, rfl, Or.inl ⟨_, _, rfl, rfl⟩⟩ (Nat.le_of_ble_eq_true rfl) (t_Mo_emit (d + 1) fm X s t hX1.1 (by omega) _ _) ?_
      rintro _ _ ⟨rfl, rfl⟩
      show ab_Z m_Mo_unit _ _ _ 12 [_] [] _
      refine ab_go ok_Mo_unit 1 rfl ?_
      show ab_Z m_Mo_unit _ _ _ 13 [_] [_] _
      refine ab_cl ok_Mo_unit rfl [_] [] rfl ⟨_, _, rfl, rfl, Or.inl ⟨_, _, rfl, rfl⟩⟩ (Nat.le_of_ble_eq_true rfl) (t_Mo_goesOn d fm X _ t ((em (0, v n)).1.T hT) (em (0, v n)).2 (fun j hj => by cases hj; omega)) ?_
      rintro _ _ ⟨rfl, s2, rfl, k2, hR2⟩
      show ab_Z m_Mo_unit _ _ _ 14 [_] [] _
      refine ab_go ok_Mo_unit 1 rfl ?_
      show ab_Z m_Mo_unit _ _ _ 48 [_] [] _
      have hf := fin (0, v n) _ s2 (by unfold unA; rw [if_pos h3]) rfl k2 hR2
      exact ab_rV ok_Mo_unit rfl (hf)
end

