theorem sh_bit32 : ∀ a, a < 32 → ∀ k, k < 5 → (nI a >>> (nI k &&& 31) &&& 1 = 1 ↔ a.testBit k = true) := by decide +kernel
section
variable (d : Nat) (fm : Value) (X : Nat × (Nat → Int32)) (s T : Nat → Nat → Int32) (t : Nat → Nat → Int64)
variable {lv nc nd nt nk : Nat} {PT PG PB PF : List (List Ins)}
theorem t_Mo_look (hC : RC s lv T nc nd nt PT PG PB PF) (hO : RTo s T nk) (x y v : Int32) : ab_T g_Mo_look (d + 6) (0, 0) [.ref 81, .int x, .int y, .int v] (HA fm X s t) (PR w4 (if whoOk (vR T nc nd (s 114)) nk nd x y ∧ inR 10 v then (if bitsN (susB (vR T nc nd (s 114)) PT nd y.toNatClampNeg x.toNatClampNeg) nc = 0 then -2 else (lokV (wrsV (vR T nc nd (s 114)) PT nc nd y.toNatClampNeg v (nI (bitsN (susB (vR T nc nd (s 114)) PT nd y.toNatClampNeg x.toNatClampNeg) nc))) (nI (bitsN (susB (vR T nc nd (s 114)) PT nd y.toNatClampNeg x.toNatClampNeg) nc)) 3).1) else -1) fm X s t) := by
  have hlv := hC.1.2.1
  have h5 := hC.1.2.2.1.2
  have h6 := hC.1.2.2.2.1.2
  have hk20 := hO.2.1
  generalize hPo : PR w4 (if whoOk (vR T nc nd (s 114)) nk nd x y ∧ inR 10 v then (if bitsN (susB (vR T nc nd (s 114)) PT nd y.toNatClampNeg x.toNatClampNeg) nc = 0 then -2 else (lokV (wrsV (vR T nc nd (s 114)) PT nc nd y.toNatClampNeg v (nI (bitsN (susB (vR T nc nd (s 114)) PT nd y.toNatClampNeg x.toNatClampNeg) nc))) (nI (bitsN (susB (vR T nc nd (s 114)) PT nd y.toNatClampNeg x.toNatClampNeg) nc)) 3).1) else -1) fm X s t = Po
  have no : ¬ (whoOk (vR T nc nd (s 114)) nk nd x y ∧ inR 10 v) → ab_Z m_Mo_look (d + 6) (0, 0) Po 15 [some (.ref 81), some (.int x), some (.int y), some (.int v), none, none, none, none, none, none] [] (HA fm X s t) := by
    intro hn
    rw [if_neg hn] at hPo
    refine ab_go ok_Mo_look 1 rfl ?_
    show ab_Z m_Mo_look _ _ _ 16 [_, _, _, _, _, _, _, _, _, _] [_] _
    have fin : Po (some (.int (-1))) (HA fm X s t) := by
      rw [← hPo]
      exact ⟨rfl, s, rfl, Kr.rf w4 s⟩
    exact ab_rI ok_Mo_look rfl (fin)
  refine ab_T_of (M := m_Mo_look) rfl rfl (Nat.le_of_ble_eq_true rfl) ?_
  show ab_Z m_Mo_look _ _ _ 0 [_, _, _, _, _, _, _, _, _, _] [] _
  refine ab_go ok_Mo_look 4 rfl ?_
  show ab_Z m_Mo_look _ _ _ 4 [_, _, _, _, _, _, _, _, _, _] [_, _, _] _
  rw [hO.1]
  refine ab_cl ok_Mo_look rfl [_, _, _] [] rfl rfl (Nat.le_of_ble_eq_true rfl) (t_Mo_in (d + 5) _ x 0 (nI nk)) ?_
  rintro _ _ ⟨rfl, rfl⟩
  show ab_Z m_Mo_look _ _ _ 5 [_, _, _, _, _, _, _, _, _, _] [_] _
  rw [bI_c (show (0 : Int32).toInt ≤ x.toInt ∧ x.toInt ≤ (nI nk).toInt ↔ inR (nk + 1) x from by
    rw [nI_t (by omega)]
    show (0 : Int) ≤ x.toInt ∧ x.toInt ≤ (nk : Int) ↔ _
    unfold inR
    omega)]
  refine ab_br ok_Mo_look rfl rfl ?_ ?_
  · intro h1
    show ab_Z m_Mo_look _ _ _ 15 [_, _, _, _, _, _, _, _, _, _] [] _
    exact no (fun q => bI_0.mp h1 q.1.1)
  · intro h1
    show ab_Z m_Mo_look _ _ _ 6 [_, _, _, _, _, _, _, _, _, _] [] _
    refine ab_go ok_Mo_look 2 rfl ?_
    show ab_Z m_Mo_look _ _ _ 8 [_, _, _, _, _, _, _, _, _, _] [_, _] _
    refine ab_cl ok_Mo_look rfl [_, _] [] rfl ⟨_, _, rfl, rfl, Or.inl ⟨_, _, rfl, rfl⟩⟩ (Nat.le_of_ble_eq_true rfl) (t_Mo_isOpen (d + 3) fm X s T t hC.1 y) ?_
    rintro _ _ ⟨rfl, rfl⟩
    show ab_Z m_Mo_look _ _ _ 9 [_, _, _, _, _, _, _, _, _, _] [_] _
    refine ab_br ok_Mo_look rfl rfl ?_ ?_
    · intro h2
      show ab_Z m_Mo_look _ _ _ 15 [_, _, _, _, _, _, _, _, _, _] [] _
      exact no (fun q => bI_0.mp h2 q.1.2)
    · intro h2
      show ab_Z m_Mo_look _ _ _ 10 [_, _, _, _, _, _, _, _, _, _] [] _
      refine ab_go ok_Mo_look 3 rfl ?_
      show ab_Z m_Mo_look _ _ _ 13 [_, _, _, _, _, _, _, _, _, _] [_, _, _] _
      refine ab_cl ok_Mo_look rfl [_, _, _] [] rfl rfl (Nat.le_of_ble_eq_true rfl) (t_Mo_in (d + 5) _ v 0 9) ?_
      rintro _ _ ⟨rfl, rfl⟩
      show ab_Z m_Mo_look _ _ _ 14 [_, _, _, _, _, _, _, _, _, _] [_] _
      rw [bI_c (show (0 : Int32).toInt ≤ v.toInt ∧ v.toInt ≤ (9 : Int32).toInt ↔ inR 10 v from by
        show (0 : Int) ≤ v.toInt ∧ v.toInt ≤ 9 ↔ _
        unfold inR
        omega)]
      refine ab_br ok_Mo_look rfl rfl ?_ ?_
      · intro h3
        show ab_Z m_Mo_look _ _ _ 15 [_, _, _, _, _, _, _, _, _, _] [] _
        exact no (fun q => bI_0.mp h3 q.2)
      · intro h3
        show ab_Z m_Mo_look _ _ _ 17 [_, _, _, _, _, _, _, _, _, _] [] _
        rw [if_pos ⟨⟨bI_n0 h1, bI_n0 h2⟩, bI_n0 h3⟩] at hPo
        obtain ⟨k, hk, rfl⟩ := inR_nat (bI_n0 h1)
        obtain ⟨e, he, rfl⟩ := inR_nat (bI_n0 h2).1
        rw [nI_c (by omega), nI_c (by omega)] at hPo
        refine ab_go ok_Mo_look 3 rfl ?_
        show ab_Z m_Mo_look _ _ _ 20 [_, _, _, _, _, _, _, _, _, _] [_, _, _] _
        refine ab_cl ok_Mo_look rfl [_, _, _] [] rfl ⟨_, _, rfl, rfl, Or.inl ⟨_, _, rfl, rfl⟩⟩ (Nat.le_of_ble_eq_true rfl) (t_Mo_whoBits d fm X s T t hC hO he (show k ≤ nk by omega)) ?_
        rintro _ _ ⟨rfl, s1, rfl, k1, hv1⟩
        show ab_Z m_Mo_look _ _ _ 21 [_, _, _, _, _, _, _, _, _, _] [_] _
        have hC1 := hC.k k1.m34
        generalize vR T nc nd (s 114) = V at hv1 hPo
        obtain ⟨p, hp⟩ : ∃ p, p = susB V PT nd e k := ⟨_, rfl⟩
        rw [← hp] at hPo ⊢
        have hB : bitsN p nc < 32 := Nat.lt_of_lt_of_le (bitsN_lt _ nc) (Nat.pow_le_pow_right (by decide) h5 : 2 ^ nc ≤ 2 ^ 5)
        have htb : ∀ c, c < nc → (bitsN p nc).testBit c = p c := fun c hc => by rw [tb_bitsN, decide_eq_true hc, Bool.true_and]
        have hpc : bcF (nI (bitsN p nc)) = nI (cntN p nc) := by rw [bcF_64 _ (by omega), bitsN_pc p nc (by omega)]
        obtain ⟨g, hg⟩ : ∃ g, g = wrsV V PT nc nd e v (nI (bitsN p nc)) := ⟨_, rfl⟩
        rw [← hg] at hPo
        have hso : ∀ f, cntN (soN V PT nd e f v (nI (bitsN p nc))) nc = cntN (fun c => p c && !decide (TV V PT nd c e f < v)) nc := fun f => cntN_cg (fun c hc => by unfold soN; rw [hbF_nI _ (by omega), htb c hc])
        have hno : ∀ f, cntN (noN V PT nd e f v (nI (bitsN p nc))) nc = cntN (fun c => p c && decide (TV V PT nd c e f < v)) nc := fun f => cntN_cg (fun c hc => by unfold noN; rw [hbF_nI _ (by omega), htb c hc])
        refine ab_go ok_Mo_look 7 rfl ?_
        show ab_Z m_Mo_look _ _ _ 28 [_, _, _, _, _, _, _, _, _, _] [] _
        by_cases hz : bitsN p nc = 0
        · rw [if_pos hz] at hPo
          rw [hz]
          refine ab_go ok_Mo_look 2 rfl ?_
          show ab_Z m_Mo_look _ _ _ 30 [_, _, _, _, _, _, _, _, _, _] [_, _] _
          refine ab_go ok_Mo_look 1 rfl ?_
          show ab_Z m_Mo_look _ _ _ 31 [_, _, _, _, _, _, _, _, _, _] [] _
          refine ab_go ok_Mo_look 1 rfl ?_
          show ab_Z m_Mo_look _ _ _ 32 [_, _, _, _, _, _, _, _, _, _] [_] _
          refine ab_go ok_Mo_look 1 rfl ?_
          show ab_Z m_Mo_look _ _ _ 86 [_, _, _, _, _, _, _, _, _, _] [] _
          refine ab_go ok_Mo_look 1 rfl ?_
          show ab_Z m_Mo_look _ _ _ 87 [_, _, _, _, _, _, _, _, _, _] [_] _
          have fin : Po (some (.int (-2))) (HA fm X s1 t) := by
            rw [← hPo]
            exact ⟨rfl, s1, rfl, k1.m34⟩
          exact ab_rI ok_Mo_look rfl (fin)
        · rw [if_neg hz] at hPo
          generalize hb : nI (bitsN p nc) = b at hPo hg hso hno hpc ⊢
          have hgv : ∀ f, g f = if nI (cntN (fun c => p c && !decide (TV V PT nd c e f < v)) nc) < nI (cntN (fun c => p c && decide (TV V PT nd c e f < v)) nc) then nI (cntN (fun c => p c && decide (TV V PT nd c e f < v)) nc) else nI (cntN (fun c => p c && !decide (TV V PT nd c e f < v)) nc) := fun f => by rw [hg, wrsV, hso, hno]
          have hgl : ∀ f, g f < bcF b + 1 := by
            intro f
            have h1 := cnt_sp p (fun c => decide (TV V PT nd c e f < v)) nc
            have h2 := cnt_le p nc
            rw [hgv f, hpc, ← nI_succ]
            split
            · exact nI_lt (by omega) (by omega)
            · exact nI_lt (by omega) (by omega)
          refine lp_dn 3 (fun f => ∀ s2 fw, Kr w1 s1 s2 → (f = 0 ∨ ∃ j, j < f ∧ lokV g b f = (nI j, g j) ∧ fw = g j) → ab_Z m_Mo_look (d + 6) (0, 0) Po 28 [some (.ref 81), none, some (.int (nI e)), some (.int v), some (.int b), some (.int (lokV g b f).1), some (.int fw), some (.int (nI f)), none, none] [] (HA fm X s2 t)) ?_ ?_ s1 0 (Kr.rf w1 s1) (Or.inl rfl)
          · intro s2 fw k2 hfw
            refine ab_go ok_Mo_look 2 rfl ?_
            show ab_Z m_Mo_look _ _ _ 30 [_, _, _, _, _, _, _, _, _, _] [_, _] _
            refine ab_go ok_Mo_look 1 rfl ?_
            show ab_Z m_Mo_look _ _ _ 86 [_, _, _, _, _, _, _, _, _, _] [] _
            refine ab_go ok_Mo_look 1 rfl ?_
            show ab_Z m_Mo_look _ _ _ 87 [_, _, _, _, _, _, _, _, _, _] [_] _
            have fin : Po (some (.int (lokV g b 3).1)) (HA fm X s2 t) := by
              rw [← hPo]
              exact ⟨rfl, s2, rfl, k1.m34.tr k2.m14⟩
            exact ab_rI ok_Mo_look rfl (fin)
          · intro f hf ih s2 fw k2 hfw
            refine ab_go ok_Mo_look 2 rfl ?_
            show ab_Z m_Mo_look _ _ _ 30 [_, _, _, _, _, _, _, _, _, _] [_, _] _
            refine ab_br ok_Mo_look rfl rfl ?_ ?_
            · intro h4
              show ab_Z m_Mo_look _ _ _ 86 [_, _, _, _, _, _, _, _, _, _] [] _
              exact absurd h4 (lp_in (N := 3) (by decide) hf)
            · intro h4
              show ab_Z m_Mo_look _ _ _ 31 [_, _, _, _, _, _, _, _, _, _] [] _
              refine ab_go ok_Mo_look 1 rfl ?_
              show ab_Z m_Mo_look _ _ _ 32 [_, _, _, _, _, _, _, _, _, _] [_] _
              refine ab_br ok_Mo_look rfl rfl ?_ ?_
              · intro h5'
                show ab_Z m_Mo_look _ _ _ 86 [_, _, _, _, _, _, _, _, _, _] [] _
                rw [← hb] at h5'
                exact absurd ((nI_z (by omega)).mp h5') hz
              · intro h5'
                show ab_Z m_Mo_look _ _ _ 33 [_, _, _, _, _, _, _, _, _, _] [] _
                refine ab_go ok_Mo_look 4 rfl ?_
                show ab_Z m_Mo_look _ _ _ 37 [_, _, _, _, _, _, _, _, _, _] [] _
                obtain ⟨so, hsoe⟩ : ∃ so : Nat → Bool, so = fun c => p c && !decide (TV V PT nd c e f < v) := ⟨_, rfl⟩
                refine lp_dn nc (fun c => ∀ s3, Kr w1 s1 s3 → ab_Z m_Mo_look (d + 6) (0, 0) Po 37 [some (.ref 81), none, some (.int (nI e)), some (.int v), some (.int b), some (.int (lokV g b f).1), some (.int fw), some (.int (nI f)), some (.int (nI (cntN so c))), some (.int (nI c))] [] (HA fm X s3 t)) ?_ ?_ s2 k2
                · intro s3 k3
                  have hC3 := hC1.k k3.m14
                  have hcont : ∀ (z y8 y9 : Int32), z = g f → ab_Z m_Mo_look (d + 6) (0, 0) Po 73 [some (.ref 81), none, some (.int (nI e)), some (.int v), some (.int b), some (.int (lokV g b f).1), some (.int fw), some (.int (nI f)), some (.int y8), some (.int y9)] [.int z] (HA fm X s3 t) := by
                    intro z y8 y9 hzg
                    rw [hzg]
                    rw [lokV, nI_succ] at ih
                    refine ab_go ok_Mo_look 2 rfl ?_
                    show ab_Z m_Mo_look _ _ _ 75 [_, _, _, _, _, _, _, _, _, _] [_] _
                    rcases hfw with rfl | ⟨j, hj, hl, rfl⟩
                    · refine ab_go ok_Mo_look 1 rfl ?_
                      show ab_Z m_Mo_look _ _ _ 80 [_, _, _, _, _, _, _, _, _, _] [] _
                      refine ab_go ok_Mo_look 6 rfl ?_
                      show ab_Z m_Mo_look _ _ _ 28 [_, _, _, _, _, _, _, _, _, _] [] _
                      rw [if_pos (show g 0 < (lokV g b 0).2 from hgl 0)] at ih
                      exact ih s3 (g 0) k3 (Or.inr ⟨0, by decide, rfl, rfl⟩)
                    · have hl1 : lokV g b (f + 1) = if g f < g j then (nI f, g f) else (nI j, g j) := by rw [lokV, hl]
                      rw [hl] at ih ⊢
                      dsimp only at ih ⊢
                      refine ab_br ok_Mo_look rfl rfl ?_ ?_
                      · intro h7
                        show ab_Z m_Mo_look _ _ _ 80 [_, _, _, _, _, _, _, _, _, _] [] _
                        exact absurd h7 (nI_l0 (by omega))
                      · intro h7
                        show ab_Z m_Mo_look _ _ _ 76 [_, _, _, _, _, _, _, _, _, _] [] _
                        refine ab_go ok_Mo_look 2 rfl ?_
                        show ab_Z m_Mo_look _ _ _ 78 [_, _, _, _, _, _, _, _, _, _] [_, _] _
                        refine ab_br ok_Mo_look rfl rfl ?_ ?_
                        · intro h8
                          show ab_Z m_Mo_look _ _ _ 80 [_, _, _, _, _, _, _, _, _, _] [] _
                          refine ab_go ok_Mo_look 6 rfl ?_
                          show ab_Z m_Mo_look _ _ _ 28 [_, _, _, _, _, _, _, _, _, _] [] _
                          rw [if_pos h8] at ih hl1
                          exact ih s3 (g f) k3 (Or.inr ⟨f, by omega, rfl, rfl⟩)
                        · intro h8
                          show ab_Z m_Mo_look _ _ _ 79 [_, _, _, _, _, _, _, _, _, _] [] _
                          refine ab_go ok_Mo_look 3 rfl ?_
                          show ab_Z m_Mo_look _ _ _ 28 [_, _, _, _, _, _, _, _, _, _] [] _
                          rw [if_neg h8] at ih hl1
                          exact ih s3 (g j) k3 (Or.inr ⟨j, by omega, rfl, rfl⟩)
                  refine ab_go ok_Mo_look 5 rfl ?_
                  show ab_Z m_Mo_look _ _ _ 42 [_, _, _, _, _, _, _, _, _, _] [_, _, _] _
                  rw [hC3.1.1]
                  refine ab_ia ok_Mo_look rfl rfl (k := lv) (by first | rfl | (simp only [LL1, LL2, LL3, LL4, LL5, LL6, LL7, LL8, LL10, LL15, LL18, LL20, LL21, LL22, LL23, LL24, LL32, LL39, LL40, LL130, LL420, pk_mul, nI_add]; done) | (simp only [LL1, LL2, LL3, LL4, LL5, LL6, LL7, LL8, LL10, LL15, LL18, LL20, LL21, LL22, LL23, LL24, LL32, LL39, LL40, LL130, LL420, pk_mul, nI_add]; congr 1; omega)) (by omega) (Nat.le_of_ble_eq_true rfl) ?_
                  show ab_Z m_Mo_look _ _ _ 43 [_, _, _, _, _, _, _, _, _, _] [_, _] _
                  rw [hC3.1.2.2.1.1]
                  refine ab_br ok_Mo_look rfl rfl ?_ ?_
                  · intro h6'
                    show ab_Z m_Mo_look _ _ _ 61 [_, _, _, _, _, _, _, _, _, _] [] _
                    refine ab_go ok_Mo_look 2 rfl ?_
                    show ab_Z m_Mo_look _ _ _ 63 [_, _, _, _, _, _, _, _, _, _] [_, _] _
                    rw [← hb]
                    refine ab_cl ok_Mo_look rfl [_] [_] rfl rfl (Nat.le_of_ble_eq_true rfl) (t_Mo_bits (d + 5) _ (show bitsN p nc < 64 by omega)) ?_
                    rintro _ _ ⟨rfl, rfl⟩
                    show ab_Z m_Mo_look _ _ _ 64 [_, _, _, _, _, _, _, _, _, _] [_, _] _
                    rw [hb, hpc]
                    have hcs := cnt_sp p (fun c => decide (TV V PT nd c e f < v)) nc
                    have hcl := cnt_le p nc
                    rw [← hsoe] at hcs
                    have hgf := hgv f
                    rw [← hsoe] at hgf
                    refine ab_go ok_Mo_look 2 rfl ?_
                    show ab_Z m_Mo_look _ _ _ 66 [_, _, _, _, _, _, _, _, _, _] [_, _] _
                    rw [pk_sub (show cntN so nc ≤ cntN p nc by omega), show cntN p nc - cntN so nc = cntN (fun c => p c && decide (TV V PT nd c e f < v)) nc by omega]
                    refine ab_br ok_Mo_look rfl rfl ?_ ?_
                    · intro h7
                      show ab_Z m_Mo_look _ _ _ 69 [_, _, _, _, _, _, _, _, _, _] [] _
                      refine ab_go ok_Mo_look 1 rfl ?_
                      show ab_Z m_Mo_look _ _ _ 70 [_, _, _, _, _, _, _, _, _, _] [_] _
                      rw [← hb]
                      refine ab_cl ok_Mo_look rfl [_] [] rfl rfl (Nat.le_of_ble_eq_true rfl) (t_Mo_bits (d + 5) _ (show bitsN p nc < 64 by omega)) ?_
                      rintro _ _ ⟨rfl, rfl⟩
                      show ab_Z m_Mo_look _ _ _ 71 [_, _, _, _, _, _, _, _, _, _] [_] _
                      rw [hb, hpc]
                      refine ab_go ok_Mo_look 2 rfl ?_
                      show ab_Z m_Mo_look _ _ _ 73 [_, _, _, _, _, _, _, _, _, _] [_] _
                      rw [pk_sub (show cntN so nc ≤ cntN p nc by omega), show cntN p nc - cntN so nc = cntN (fun c => p c && decide (TV V PT nd c e f < v)) nc by omega]
                      have h7' := i_le h7
                      exact hcont _ _ _ (by
                        rw [hgf]
                        by_cases hx : nI (cntN so nc) < nI (cntN (fun c => p c && decide (TV V PT nd c e f < v)) nc)
                        · rw [if_pos hx]
                        · rw [if_neg hx]; have := i_nlt hx; exact Int32.toInt_inj.mp (by omega))
                    · intro h7
                      show ab_Z m_Mo_look _ _ _ 67 [_, _, _, _, _, _, _, _, _, _] [] _
                      refine ab_go ok_Mo_look 2 rfl ?_
                      show ab_Z m_Mo_look _ _ _ 73 [_, _, _, _, _, _, _, _, _, _] [_] _
                      have h7' := i_nle h7
                      exact hcont _ _ _ (by rw [hgf, if_neg (fun z => by have := i_lt z; omega)])
                  · intro h6'
                    show ab_Z m_Mo_look _ _ _ 44 [_, _, _, _, _, _, _, _, _, _] [] _
                    exact absurd (lp_out nc) h6'
                · intro c hc ihc s3 k3
                  have hC3 := hC1.k k3.m14
                  refine ab_go ok_Mo_look 5 rfl ?_
                  show ab_Z m_Mo_look _ _ _ 42 [_, _, _, _, _, _, _, _, _, _] [_, _, _] _
                  rw [hC3.1.1]
                  refine ab_ia ok_Mo_look rfl rfl (k := lv) (by first | rfl | (simp only [LL1, LL2, LL3, LL4, LL5, LL6, LL7, LL8, LL10, LL15, LL18, LL20, LL21, LL22, LL23, LL24, LL32, LL39, LL40, LL130, LL420, pk_mul, nI_add]; done) | (simp only [LL1, LL2, LL3, LL4, LL5, LL6, LL7, LL8, LL10, LL15, LL18, LL20, LL21, LL22, LL23, LL24, LL32, LL39, LL40, LL130, LL420, pk_mul, nI_add]; congr 1; omega)) (by omega) (Nat.le_of_ble_eq_true rfl) ?_
                  show ab_Z m_Mo_look _ _ _ 43 [_, _, _, _, _, _, _, _, _, _] [_, _] _
                  rw [hC3.1.2.2.1.1]
                  refine ab_br ok_Mo_look rfl rfl ?_ ?_
                  · intro h6'
                    show ab_Z m_Mo_look _ _ _ 61 [_, _, _, _, _, _, _, _, _, _] [] _
                    exact absurd h6' (lp_in (by omega) hc)
                  · intro h6'
                    show ab_Z m_Mo_look _ _ _ 44 [_, _, _, _, _, _, _, _, _, _] [] _
                    refine ab_go ok_Mo_look 6 rfl ?_
                    show ab_Z m_Mo_look _ _ _ 50 [_, _, _, _, _, _, _, _, _, _] [_, _] _
                    rw [cntN, nI_succ c] at ihc
                    rw [← hb]
                    refine ab_br ok_Mo_look rfl rfl ?_ ?_
                    · intro h7
                      show ab_Z m_Mo_look _ _ _ 51 [_, _, _, _, _, _, _, _, _, _] [] _
                      have hpt : p c = true := by rw [← htb c hc]; exact (sh_bit32 _ hB c (by omega)).mp h7
                      rw [hb]
                      refine ab_go ok_Mo_look 4 rfl ?_
                      show ab_Z m_Mo_look _ _ _ 55 [_, _, _, _, _, _, _, _, _, _] [_, _, _, _] _
                      refine ab_cl ok_Mo_look rfl [_, _, _, _] [] rfl ⟨_, _, rfl, rfl, Or.inl ⟨_, _, rfl, rfl⟩⟩ (Nat.le_of_ble_eq_true rfl) (t_Mo_takesOf (d + 3) fm X s3 T t hC3 hc he hf) ?_
                      rintro _ _ ⟨rfl, s4, rfl, k4⟩
                      show ab_Z m_Mo_look _ _ _ 56 [_, _, _, _, _, _, _, _, _, _] [_] _
                      rw [k3.row (c := 115) (fun _ => rfl), hv1]
                      refine ab_go ok_Mo_look 1 rfl ?_
                      show ab_Z m_Mo_look _ _ _ 57 [_, _, _, _, _, _, _, _, _, _] [_, _] _
                      refine ab_br ok_Mo_look rfl rfl ?_ ?_
                      · intro h8
                        show ab_Z m_Mo_look _ _ _ 59 [_, _, _, _, _, _, _, _, _, _] [] _
                        refine ab_go ok_Mo_look 2 rfl ?_
                        show ab_Z m_Mo_look _ _ _ 37 [_, _, _, _, _, _, _, _, _, _] [] _
                        rw [show so c = false from by rw [hsoe]; dsimp only; rw [decide_eq_true h8, Bool.not_true, Bool.and_false], if_neg (by decide), Nat.add_zero] at ihc
                        exact ihc s4 (k3.tr k4)
                      · intro h8
                        show ab_Z m_Mo_look _ _ _ 58 [_, _, _, _, _, _, _, _, _, _] [] _
                        refine ab_go ok_Mo_look 3 rfl ?_
                        show ab_Z m_Mo_look _ _ _ 37 [_, _, _, _, _, _, _, _, _, _] [] _
                        rw [show so c = true from by rw [hsoe]; dsimp only; rw [decide_eq_false h8, hpt]; rfl, if_pos rfl, nI_succ] at ihc
                        exact ihc s4 (k3.tr k4)
                    · intro h7
                      show ab_Z m_Mo_look _ _ _ 59 [_, _, _, _, _, _, _, _, _, _] [] _
                      have hpf : p c = false := by
                        cases hx : p c
                        · rfl
                        · exact absurd ((sh_bit32 _ hB c (by omega)).mpr (by rw [htb c hc]; exact hx)) h7
                      rw [hb]
                      refine ab_go ok_Mo_look 2 rfl ?_
                      show ab_Z m_Mo_look _ _ _ 37 [_, _, _, _, _, _, _, _, _, _] [] _
                      rw [show so c = false from by rw [hsoe]; dsimp only; rw [hpf, Bool.false_and], if_neg (by decide), Nat.add_zero] at ihc
                      exact ihc s3 k3
end

