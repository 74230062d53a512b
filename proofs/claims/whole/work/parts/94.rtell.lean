theorem rk_oth : ∀ k, k < 277 → kVb k = true → (k < 256 ∨ 265 ≤ k) → rkF k < 20 ∨ 29 ≤ rkF k := by decide +kernel
section
variable (d : Nat) (fm : Value) (X : Nat × (Nat → Int32)) (s : Nat → Nat → Int32) (t : Nat → Nat → Int64)
variable {K P v : Nat → Nat} {nm : Nat → List Nat}
theorem o_oth {sd n : Nat} {x : Tx} (hS : RSt K P v nm sd s t n x) (hK : K n < 256 ∨ 265 ≤ K n) : ab_Z m_Mo_tellOne (d + 6) (0, 0) (PW K P v nm sd fm X s t (telT K v nm x n)) 178 [some (.ref 81), none, none, none] [] (HA fm X s t) := by
  generalize hPo : PW K P v nm sd fm X s t (telT K v nm x n) = Po
  obtain ⟨hT, hR, hl, hlq, h12, ⟨h19, hs2⟩, hN, hD, hL⟩ := hS
  have hkn := hT.2.2.1 n
  have hr := rk_oth _ (kV_lt hkn) hkn hK
  have hr4 := rk_lt _ hkn
  have hn4 : n ≤ 400 := hR.2.2.1
  have hQ : telT K v nm x n = .inr (1, n) := by
    unfold telT telB
    rw [if_neg (by omega), if_neg (by omega), if_neg (by omega), if_neg (by omega), if_neg (by omega), if_neg (by omega), if_neg (by omega), if_neg (by omega), if_neg (by omega)]
    rfl
  have bad : ∀ z : Int32, ab_Z m_Mo_tellOne (d + 6) (0, 0) Po 195 [some (.ref 81), some (.int z), none, none] [] (HA fm X s t) := by
    intro z
    refine ab_go ok_Mo_tellOne 2 rfl ?_
    show ab_Z m_Mo_tellOne _ _ _ 197 [_, _, _, _] [_, _] _
    refine ab_cl ok_Mo_tellOne rfl [_, _] [] rfl ⟨_, _, rfl, rfl, Or.inl ⟨_, _, rfl, rfl⟩⟩ (Nat.le_of_ble_eq_true rfl) (t_Mo_fail (d + 5) fm X s t hT hR (c := 1) (by omega) _ rfl) ?_
    rintro _ _ ⟨rfl, s1, rfl, k1, hR1, -⟩
    show ab_Z m_Mo_tellOne _ _ _ 198 [_, _, _, _] [] _
    rw [bnd_l] at hR1
    refine ab_go ok_Mo_tellOne 2 rfl ?_
    show ab_Z m_Mo_tellOne _ _ _ 200 [_, _, _, _] [_] _
    rw [hR1.1]
    refine ab_go ok_Mo_tellOne 1 rfl ?_
    show ab_Z m_Mo_tellOne _ _ _ 201 [_, _, _, _] [] _
    have fin : Po none (HA fm X s1 t) := by
      rw [← hPo]
      refine ⟨rfl, s1, t, rfl, k1.n.w, fun _ _ => rfl, by rw [hQ]; exact hR1, fun q hq => by rw [hQ] at hq; cases hq⟩
    exact ab_rV ok_Mo_tellOne rfl (fin)
  refine ab_go ok_Mo_tellOne 4 rfl ?_
  show ab_Z m_Mo_tellOne _ _ _ 182 [_, _, _, _] [_, _] _
  rw [hR.1]
  refine ab_ia ok_Mo_tellOne rfl rfl (k := n) (by first | rfl | (simp only [LL1, LL2, LL3, LL4, LL5, LL6, LL7, LL8, LL10, LL15, LL18, LL20, LL21, LL22, LL23, LL24, LL32, LL39, LL40, LL130, LL420, pk_mul, nI_add]; done) | (simp only [LL1, LL2, LL3, LL4, LL5, LL6, LL7, LL8, LL10, LL15, LL18, LL20, LL21, LL22, LL23, LL24, LL32, LL39, LL40, LL130, LL420, pk_mul, nI_add]; congr 1; omega)) (by omega) (Nat.le_of_ble_eq_true rfl) ?_
  show ab_Z m_Mo_tellOne _ _ _ 183 [_, _, _, _] [_] _
  rw [(hT.1 n hR.2.2).1]
  refine ab_go ok_Mo_tellOne 4 rfl ?_
  show ab_Z m_Mo_tellOne _ _ _ 187 [_, _, _, _] [_] _
  refine ab_br ok_Mo_tellOne rfl rfl ?_ ?_
  · intro h1
    show ab_Z m_Mo_tellOne _ _ _ 195 [_, _, _, _] [] _
    exact bad _
  · intro h1
    show ab_Z m_Mo_tellOne _ _ _ 188 [_, _, _, _] [] _
    refine ab_go ok_Mo_tellOne 4 rfl ?_
    show ab_Z m_Mo_tellOne _ _ _ 192 [_, _, _, _] [_, _] _
    rw [hR.1]
    refine ab_ia ok_Mo_tellOne rfl rfl (k := n) (by first | rfl | (simp only [LL1, LL2, LL3, LL4, LL5, LL6, LL7, LL8, LL10, LL15, LL18, LL20, LL21, LL22, LL23, LL24, LL32, LL39, LL40, LL130, LL420, pk_mul, nI_add]; done) | (simp only [LL1, LL2, LL3, LL4, LL5, LL6, LL7, LL8, LL10, LL15, LL18, LL20, LL21, LL22, LL23, LL24, LL32, LL39, LL40, LL130, LL420, pk_mul, nI_add]; congr 1; omega)) (by omega) (Nat.le_of_ble_eq_true rfl) ?_
    show ab_Z m_Mo_tellOne _ _ _ 193 [_, _, _, _] [_] _
    rw [(hT.1 n hR.2.2).1]
    refine ab_go ok_Mo_tellOne 1 rfl ?_
    show ab_Z m_Mo_tellOne _ _ _ 194 [_, _, _, _] [_, _] _
    refine ab_br ok_Mo_tellOne rfl rfl ?_ ?_
    · intro h2
      show ab_Z m_Mo_tellOne _ _ _ 198 [_, _, _, _] [] _
      have h2' := (nI_leI (show rkF (K n) < 2 ^ 31 by omega) (show 26 < 2 ^ 31 by decide)).mp h2
      have hlt : rkF (K n) < 20 := by omega
      have neg : ∀ j, j < 20 → nI j - 23 < 0 := by decide
      exact absurd (neg _ hlt) h1
    · intro h2
      show ab_Z m_Mo_tellOne _ _ _ 195 [_, _, _, _] [] _
      exact bad _
theorem o_law {sd n k : Nat} {x : Tx} (hS : RSt K P v nm sd s t n x) (hk4 : k < 4) (hK : K n = 259 + k) : ab_Z m_Mo_tellOne (d + 6) (0, 0) (PW K P v nm sd fm X s t (telT K v nm x n)) 178 [some (.ref 81), none, none, none] [] (HA fm X s t) := by
  generalize hPo : PW K P v nm sd fm X s t (telT K v nm x n) = Po
  obtain ⟨hT, hR, hl, hlq, h12, ⟨h19, hs2⟩, hN, hD, c, b, hc1, hc2, hc3, hb1, hb2, hb3, hLw⟩ := hS
  have hn4 : n ≤ 400 := hR.2.2.1
  have hrk : rkF (K n) = 23 + k := by rw [hK, show 259 + k = 256 + (3 + k) by omega, rk_w]; omega
  have hQ : telT K v nm x n = bnd (bnd (goT n) (lawE K v)) fun q => .inl (q.1, (x.1, x.2.1, x.2.2.1, x.2.2.2.1, updN (xLw x) k q.2, xLt x)) := by
    have hB : telB K v nm x n = lwT K v x k n := by
      unfold telB
      rcases (by omega : k = 0 ∨ k = 1 ∨ k = 2 ∨ k = 3) with rfl | rfl | rfl | rfl
      all_goals simp [hK]
    unfold telT
    rw [hB]
    unfold lwT lawT lawE
    simp only [bnd_bnd, bnd_l]
  refine ab_go ok_Mo_tellOne 4 rfl ?_
  show ab_Z m_Mo_tellOne _ _ _ 182 [_, _, _, _] [_, _] _
  rw [hR.1]
  refine ab_ia ok_Mo_tellOne rfl rfl (k := n) (by first | rfl | (simp only [LL1, LL2, LL3, LL4, LL5, LL6, LL7, LL8, LL10, LL15, LL18, LL20, LL21, LL22, LL23, LL24, LL32, LL39, LL40, LL130, LL420, pk_mul, nI_add]; done) | (simp only [LL1, LL2, LL3, LL4, LL5, LL6, LL7, LL8, LL10, LL15, LL18, LL20, LL21, LL22, LL23, LL24, LL32, LL39, LL40, LL130, LL420, pk_mul, nI_add]; congr 1; omega)) (by omega) (Nat.le_of_ble_eq_true rfl) ?_
  show ab_Z m_Mo_tellOne _ _ _ 183 [_, _, _, _] [_] _
  rw [(hT.1 n hR.2.2).1, hrk]
  refine ab_go ok_Mo_tellOne 4 rfl ?_
  show ab_Z m_Mo_tellOne _ _ _ 187 [_, _, _, _] [_] _
  rw [show (23 : Int32) = nI 23 from rfl, pk_sub (Nat.le_add_right ..), show 23 + k - 23 = k by omega]
  refine ab_br ok_Mo_tellOne rfl rfl ?_ ?_
  · intro h1
    show ab_Z m_Mo_tellOne _ _ _ 195 [_, _, _, _] [] _
    exact absurd h1 (fun z => by have := i_lt z; rw [nI_t (by omega)] at this; have h0 : (0 : Int32).toInt = 0 := rfl; omega)
  · intro h1
    show ab_Z m_Mo_tellOne _ _ _ 188 [_, _, _, _] [] _
    refine ab_go ok_Mo_tellOne 4 rfl ?_
    show ab_Z m_Mo_tellOne _ _ _ 192 [_, _, _, _] [_, _] _
    rw [hR.1]
    refine ab_ia ok_Mo_tellOne rfl rfl (k := n) (by first | rfl | (simp only [LL1, LL2, LL3, LL4, LL5, LL6, LL7, LL8, LL10, LL15, LL18, LL20, LL21, LL22, LL23, LL24, LL32, LL39, LL40, LL130, LL420, pk_mul, nI_add]; done) | (simp only [LL1, LL2, LL3, LL4, LL5, LL6, LL7, LL8, LL10, LL15, LL18, LL20, LL21, LL22, LL23, LL24, LL32, LL39, LL40, LL130, LL420, pk_mul, nI_add]; congr 1; omega)) (by omega) (Nat.le_of_ble_eq_true rfl) ?_
    show ab_Z m_Mo_tellOne _ _ _ 193 [_, _, _, _] [_] _
    rw [(hT.1 n hR.2.2).1, hrk]
    refine ab_go ok_Mo_tellOne 1 rfl ?_
    show ab_Z m_Mo_tellOne _ _ _ 194 [_, _, _, _] [_, _] _
    refine ab_br ok_Mo_tellOne rfl rfl ?_ ?_
    · intro h2
      show ab_Z m_Mo_tellOne _ _ _ 198 [_, _, _, _] [] _
      refine ab_go ok_Mo_tellOne 2 rfl ?_
      show ab_Z m_Mo_tellOne _ _ _ 200 [_, _, _, _] [_] _
      rw [hR.2.1]
      refine ab_go ok_Mo_tellOne 1 rfl ?_
      show ab_Z m_Mo_tellOne _ _ _ 202 [_, _, _, _] [] _
      refine ab_go ok_Mo_tellOne 1 rfl ?_
      show ab_Z m_Mo_tellOne _ _ _ 203 [_, _, _, _] [_] _
      refine ab_cl ok_Mo_tellOne rfl [_] [] rfl ⟨_, _, rfl, rfl, Or.inl ⟨_, _, rfl, rfl⟩⟩ (Nat.le_of_ble_eq_true rfl) (t_Mo_goesOn (d + 4) fm X s t hT hR (fun j hj => by cases hj; omega)) ?_
      rintro _ _ ⟨rfl, s1, rfl, k1, hR1⟩
      show ab_Z m_Mo_tellOne _ _ _ 204 [_, _, _, _] [] _
      rw [bnd_l] at hR1
      refine ab_go ok_Mo_tellOne 2 rfl ?_
      show ab_Z m_Mo_tellOne _ _ _ 206 [_, _, _, _] [_, _] _
      refine ab_cl ok_Mo_tellOne rfl [_, _] [] rfl ⟨_, _, rfl, rfl, Or.inl ⟨_, _, rfl, rfl⟩⟩ (Nat.le_of_ble_eq_true rfl) (t_Mo_tellLaw d fm X s1 t (k1.n.T hT) (cl := 420 * sd) (c0 := c) (ce := 420 * sd + 420) (b0 := b) (be := 130 * sd + 130) (by omega) (by omega) (by omega) hc2 (sd := sd) ((k1 81 19 (by omega)).trans h19) hs2 hk4 hR1 ((k1 81 36 (by omega)).trans hb1) (fun m hm => ⟨(k1 81 42 (by omega)).trans hc1, by have := (go_1 hm).1; omega, (k1 81 12 (by omega)).trans h12⟩)) ?_
      rintro _ _ ⟨rfl, s2, rfl, k2, hR2, ha2⟩
      show ab_Z m_Mo_tellOne _ _ _ 207 [_, _, _, _] [] _
      have fin : Po none (HA fm X s2 t) := by
        rw [← hPo]
        have hmp : mpT Prod.fst (telT K v nm x n) = mpT Prod.fst (bnd (goT n) (lawE K v)) := by
          rw [hQ]
          cases bnd (goT n) (lawE K v) <;> rfl
        have hR3 : RdM s2 K P (mpT Prod.fst (telT K v nm x n)) := by rw [hmp]; exact hR2
        refine ⟨rfl, s2, t, rfl, fun y z hc => ?_, fun _ _ => rfl, hR3, fun q hq => ?_⟩
        · rw [k2 y z (fun w => hc (wm0 ⟨w.1, by omega⟩)) (fun w => hc (wm2 w)) (fun w => hc (wm11 ⟨w.1, by omega, by omega⟩)) (fun w => hc (wm10 ⟨w.1, w.2.1, by omega, by omega⟩)) (fun w => hc (wm9 ⟨w.1, by omega, by omega⟩))]
          exact k1 y z (fun w => hc (wm0 ⟨w.1, by omega⟩))
        · rw [hq] at hR3
          rw [hQ] at hq
          obtain ⟨w, hw, hw2⟩ := bnd_in hq
          obtain ⟨n1, hg, hw3⟩ := bnd_in hw
          have hn1 := (go_1 hg).1
          obtain ⟨j, c', j1, j2, j3, j4, j5, j6, j7, j8, j9, j10⟩ := ha2 n1 w hg hw3
          cases hw2
          have er : ∀ y, y ≠ 81 → y ≠ 111 → y < 102 → s2 y = s y := fun y h1 h2 h3 => funext fun z => by rw [k2 y z (fun w => h1 w.1) h2 (by omega) (by omega) (by omega), k1.br y h1]
          have ef : ∀ y, y = 15 ∨ y = 16 ∨ y = 19 ∨ y = 20 → s2 81 y = s 81 y := fun y hy => by rw [k2 81 y (by omega) (by omega) (by omega) (by omega) (by omega)]; exact k1 81 y (by omega)
          refine ⟨hT.of (er 84 (by decide) (by decide) (by decide)) (er 85 (by decide) (by decide) (by decide)) (er 86 (by decide) (by decide) (by decide)) rfl, hR3, hl.of (ef 15 (by omega)) (ef 16 (by omega)), fun z => by have := hlq z; show (xLt x).2 < w.1; omega, j6, ⟨(ef 19 (by omega)).trans h19, hs2⟩, ?_, hD.of (fun y h1 h2 => er y (by omega) (by omega) (by omega)), c', b + (j + 1), j3, by omega, by show c' ≤ 420 * sd + w.1; omega, j2, by omega, by show 4 * (b + (j + 1)) ≤ 520 * sd + w.1; omega, fun k' hk' => ?_⟩
          · obtain ⟨L, v1, v2, v3, v4⟩ := hN
            exact ⟨L, (ef 20 (by omega)).trans v1, v2, v3.of (er 90 (by decide) (by decide) (by decide)) rfl, v4⟩
          · show LwM s2 sd k' (updN (xLw x) k w.2 k') (xLw tx0 k') c' (b + (j + 1))
            unfold updN
            by_cases hkk : k' = k
            · subst hkk
              rw [if_pos rfl]
              exact Or.inr ⟨b, j, j7, j8, hb2, Nat.le_refl _, j9⟩
            · rw [if_neg hkk]
              refine (hLw k' hk').of ?_ ?_ (fun y h1 h2 => ⟨?_, ?_⟩) (fun y z h1 h2 h3 h4 => ?_) j4 (by omega)
              · rw [k2 102 _ (by omega) (by omega) (by omega) (by omega) (by omega), k1.br 102 (by decide)]
              · rw [k2 103 _ (by omega) (by omega) (by omega) (by omega) (by omega), k1.br 103 (by decide)]
              · rw [k2 109 _ (by omega) (by omega) (by omega) (by omega) (by omega), k1.br 109 (by decide)]
              · rw [k2 110 _ (by omega) (by omega) (by omega) (by omega) (by omega), k1.br 110 (by decide)]
              · rw [k2 y _ (by omega) (by omega) (by omega) (by omega) (by omega), k1.br y (by omega)]
      exact ab_rV ok_Mo_tellOne rfl (fin)
    · intro h2
      show ab_Z m_Mo_tellOne _ _ _ 195 [_, _, _, _] [] _
      exact absurd ((nI_leI (show 23 + k < 2 ^ 31 by omega) (show 26 < 2 ^ 31 by decide)).mpr (by omega)) h2
theorem t_Mo_tellOne {sd n : Nat} {x : Tx} (hS : RSt K P v nm sd s t n x) : ab_T g_Mo_tellOne (d + 6) (0, 0) [.ref 81] (HA fm X s t) (PW K P v nm sd fm X s t (telT K v nm x n)) := by
  have hR := hS.2.1
  have hT := hS.1
  have hn4 : n ≤ 400 := hR.2.2.1
  have hkn := hT.2.2.1 n
  have hr4 := rk_lt _ hkn
  refine ab_T_of (M := m_Mo_tellOne) rfl rfl (Nat.le_of_ble_eq_true rfl) ?_
  show ab_Z m_Mo_tellOne _ _ _ 0 [_, _, _, _] [] _
  refine ab_go ok_Mo_tellOne 4 rfl ?_
  show ab_Z m_Mo_tellOne _ _ _ 4 [_, _, _, _] [_, _] _
  rw [hR.1]
  refine ab_ia ok_Mo_tellOne rfl rfl (k := n) (by first | rfl | (simp only [LL1, LL2, LL3, LL4, LL5, LL6, LL7, LL8, LL10, LL15, LL18, LL20, LL21, LL22, LL23, LL24, LL32, LL39, LL40, LL130, LL420, pk_mul, nI_add]; done) | (simp only [LL1, LL2, LL3, LL4, LL5, LL6, LL7, LL8, LL10, LL15, LL18, LL20, LL21, LL22, LL23, LL24, LL32, LL39, LL40, LL130, LL420, pk_mul, nI_add]; congr 1; omega)) (by omega) (Nat.le_of_ble_eq_true rfl) ?_
  show ab_Z m_Mo_tellOne _ _ _ 5 [_, _, _, _] [_] _
  rw [(hT.1 n hR.2.2).1]
  rcases kw_9 (K n) with (h | h | h | h | h | h | h | h | h) | h
  · rw [h, show nI (rkF 256) = 20 from rfl]
    refine ab_go ok_Mo_tellOne 1 rfl ?_
    rw [show ab_tgt 20 [6, 74, 146, 178, 178, 178, 178, 160, 169] 178 20 = 6 from by decide]
    show ab_Z m_Mo_tellOne _ _ _ 6 [_, _, _, _] [] _
    exact o_clk d fm X s t hS h
  · rw [h, show nI (rkF 257) = 21 from rfl]
    refine ab_go ok_Mo_tellOne 1 rfl ?_
    rw [show ab_tgt 20 [6, 74, 146, 178, 178, 178, 178, 160, 169] 178 21 = 74 from by decide]
    show ab_Z m_Mo_tellOne _ _ _ 74 [_, _, _, _] [] _
    exact o_ded d fm X s t hS h
  · rw [h, show nI (rkF 258) = 22 from rfl]
    refine ab_go ok_Mo_tellOne 1 rfl ?_
    rw [show ab_tgt 20 [6, 74, 146, 178, 178, 178, 178, 160, 169] 178 22 = 146 from by decide]
    show ab_Z m_Mo_tellOne _ _ _ 146 [_, _, _, _] [] _
    exact o_tre d fm X s t hS h
  · rw [h, show nI (rkF 259) = 23 from rfl]
    refine ab_go ok_Mo_tellOne 1 rfl ?_
    rw [show ab_tgt 20 [6, 74, 146, 178, 178, 178, 178, 160, 169] 178 23 = 178 from by decide]
    show ab_Z m_Mo_tellOne _ _ _ 178 [_, _, _, _] [] _
    exact o_law d fm X s t hS (k := 0) (by decide) h
  · rw [h, show nI (rkF 260) = 24 from rfl]
    refine ab_go ok_Mo_tellOne 1 rfl ?_
    rw [show ab_tgt 20 [6, 74, 146, 178, 178, 178, 178, 160, 169] 178 24 = 178 from by decide]
    show ab_Z m_Mo_tellOne _ _ _ 178 [_, _, _, _] [] _
    exact o_law d fm X s t hS (k := 1) (by decide) h
  · rw [h, show nI (rkF 261) = 25 from rfl]
    refine ab_go ok_Mo_tellOne 1 rfl ?_
    rw [show ab_tgt 20 [6, 74, 146, 178, 178, 178, 178, 160, 169] 178 25 = 178 from by decide]
    show ab_Z m_Mo_tellOne _ _ _ 178 [_, _, _, _] [] _
    exact o_law d fm X s t hS (k := 2) (by decide) h
  · rw [h, show nI (rkF 262) = 26 from rfl]
    refine ab_go ok_Mo_tellOne 1 rfl ?_
    rw [show ab_tgt 20 [6, 74, 146, 178, 178, 178, 178, 160, 169] 178 26 = 178 from by decide]
    show ab_Z m_Mo_tellOne _ _ _ 178 [_, _, _, _] [] _
    exact o_law d fm X s t hS (k := 3) (by decide) h
  · rw [h, show nI (rkF 263) = 27 from rfl]
    refine ab_go ok_Mo_tellOne 1 rfl ?_
    rw [show ab_tgt 20 [6, 74, 146, 178, 178, 178, 178, 160, 169] 178 27 = 160 from by decide]
    show ab_Z m_Mo_tellOne _ _ _ 160 [_, _, _, _] [] _
    exact o_slp d fm X s t hS h
  · rw [h, show nI (rkF 264) = 28 from rfl]
    refine ab_go ok_Mo_tellOne 1 rfl ?_
    rw [show ab_tgt 20 [6, 74, 146, 178, 178, 178, 178, 160, 169] 178 28 = 169 from by decide]
    show ab_Z m_Mo_tellOne _ _ _ 169 [_, _, _, _] [] _
    exact o_sed d fm X s t hS h
  · have hr := rk_oth _ (kV_lt hkn) hkn h
    refine ab_go ok_Mo_tellOne 1 rfl ?_
    rw [ab_tgt_d ((show (nI (rkF (K n))).toInt < 20 ∨ (29 : Int) ≤ (nI (rkF (K n))).toInt by rw [nI_t (by omega)]; omega))]
    show ab_Z m_Mo_tellOne _ _ _ 178 [_, _, _, _] [] _
    exact o_oth d fm X s t hS h
end

