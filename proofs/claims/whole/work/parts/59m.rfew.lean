theorem setP_sk {p : Nat → Bool} {D : Nat → Nat} {e : Nat} : ∀ {e1 : Nat}, e ≤ e1 → (∀ j, e ≤ j → j < e1 → p j = false) → setP p D e1 = setP p D e
  | 0, h, _ => by rw [Nat.le_zero.mp h]
  | e1 + 1, h, hn => by
    rcases Nat.lt_or_ge e1 e with h2 | h2
    · rw [show e = e1 + 1 by omega]
    · rw [setP, hn e1 h2 (by omega), if_neg (by decide), setP_sk h2 (fun j a b => hn j a (by omega))]
theorem bc_eq {a b : Nat} (ha : a < 64) (hb : b < 64) : bcF (nI a) = bcF (nI b) ↔ pcN a = pcN b := by
  rw [bcF_64 a ha, bcF_64 b hb]
  have h1 := cnt_le (fun i => a.testBit i) 6
  have h2 := cnt_le (fun i => b.testBit i) 6
  exact nI_eq (show pcN a < _ from Nat.lt_of_le_of_lt h1 (by decide)) (show pcN b < _ from Nat.lt_of_le_of_lt h2 (by decide))
section
variable (d : Nat) (fm : Value) (X : Nat × (Nat → Int32)) (s T : Nat → Nat → Int32) (t : Nat → Nat → Int64)
variable {lv nc nd nt : Nat} {PT PG PB PF : List (List Ins)}
theorem t_Mo_fewest (hC : RC s lv T nc nd nt PT PG PB PF) (y : Int32) : ab_T g_Mo_fewest (d + 5) (0, 0) [.ref 81, .int y] (HA fm X s t) (PR w4 (if y = 0 ∨ y = 1 then (if fewA (vR T nc nd (s 114)) PT nc nd = -2 then -2 else if y = 0 then bcF (fewA (vR T nc nd (s 114)) PT nc nd) else fewA (vR T nc nd (s 114)) PT nc nd) else -1) fm X s t) := by
  have h5 := hC.1.2.2.1.2
  have h6 := hC.1.2.2.2.1.2
  have hlv := hC.1.2.1
  obtain ⟨V, hV⟩ : ∃ V, V = vR T nc nd (s 114) := ⟨_, rfl⟩
  rw [← hV]
  obtain ⟨p, hp⟩ : ∃ p, p = openB V := ⟨_, rfl⟩
  obtain ⟨om, hom⟩ : ∃ om, om = cntN p nd := ⟨_, rfl⟩
  have hom6 : om ≤ 6 := by have := cnt_le p nd; omega
  have hW6 : nc ^ om ≤ 46656 := Nat.le_trans (Nat.pow_le_pow_left (show nc ≤ 6 by omega) om) (Nat.pow_le_pow_right (by decide) hom6 : 6 ^ om ≤ 6 ^ 6)
  obtain ⟨F, hF⟩ : ∃ F, F = fewA V PT nc nd := ⟨_, rfl⟩
  rw [← hF]
  obtain ⟨fa, fb⟩ := few_all (V := V) (PT := PT) (nc := nc) (nd := nd) (om := om) (p := p) h6 h5 hp hom
  rw [← hF] at fa fb
  refine ab_T_of (M := m_Mo_fewest) rfl rfl (Nat.le_of_ble_eq_true rfl) ?_
  show ab_Z m_Mo_fewest _ _ _ 0 [_, _, _, _, _, _, _, _] [] _
  refine ab_go ok_Mo_fewest 3 rfl ?_
  show ab_Z m_Mo_fewest _ _ _ 3 [_, _, _, _, _, _, _, _] [_, _, _] _
  refine ab_cl ok_Mo_fewest rfl [_, _, _] [] rfl rfl (Nat.le_of_ble_eq_true rfl) (t_Mo_in (d + 4) _ y 0 1) ?_
  rintro _ _ ⟨rfl, rfl⟩
  show ab_Z m_Mo_fewest _ _ _ 4 [_, _, _, _, _, _, _, _] [_] _
  rw [bI_c (in01 y)]
  refine ab_br ok_Mo_fewest rfl rfl ?_ ?_
  · intro h1
    show ab_Z m_Mo_fewest _ _ _ 5 [_, _, _, _, _, _, _, _] [] _
    refine ab_go ok_Mo_fewest 1 rfl ?_
    show ab_Z m_Mo_fewest _ _ _ 6 [_, _, _, _, _, _, _, _] [_] _
    exact ab_rI ok_Mo_fewest rfl (⟨by rw [if_neg (bI_0.mp h1)], s, rfl, Kr.rf w4 s⟩)
  · intro h1
    show ab_Z m_Mo_fewest _ _ _ 7 [_, _, _, _, _, _, _, _] [] _
    have hy := bI_n0 h1
    rw [if_pos hy]
    generalize hPo : PR w4 (if F = -2 then -2 else if y = 0 then bcF F else F) fm X s t = Po
    refine ab_go ok_Mo_fewest 1 rfl ?_
    show ab_Z m_Mo_fewest _ _ _ 8 [_, _, _, _, _, _, _, _] [_] _
    refine ab_cl ok_Mo_fewest rfl [_] [] rfl ⟨_, _, rfl, rfl, Or.inl ⟨_, _, rfl, rfl⟩⟩ (Nat.le_of_ble_eq_true rfl) (t_Mo_fillsOpen (d + 1) fm X s T t hC.1) ?_
    rintro _ _ ⟨rfl, s1, rfl, k1, o1, -⟩
    show ab_Z m_Mo_fewest _ _ _ 9 [_, _, _, _, _, _, _, _] [] _
    rw [← hV, ← hp] at o1
    have hC1 := hC.k k1.m64
    refine ab_go ok_Mo_fewest 4 rfl ?_
    show ab_Z m_Mo_fewest _ _ _ 13 [_, _, _, _, _, _, _, _] [_, _] _
    rw [hC1.1.1]
    refine ab_ia ok_Mo_fewest rfl rfl (k := lv) (by first | rfl | (simp only [LL1, LL2, LL3, LL4, LL5, LL6, LL7, LL8, LL10, LL15, LL18, LL20, LL21, LL22, LL23, LL24, LL32, LL39, LL40, LL130, LL420, pk_mul, nI_add]; done) | (simp only [LL1, LL2, LL3, LL4, LL5, LL6, LL7, LL8, LL10, LL15, LL18, LL20, LL21, LL22, LL23, LL24, LL32, LL39, LL40, LL130, LL420, pk_mul, nI_add]; congr 1; omega)) (by omega) (Nat.le_of_ble_eq_true rfl) ?_
    show ab_Z m_Mo_fewest _ _ _ 14 [_, _, _, _, _, _, _, _] [_] _
    rw [hC1.1.2.2.1.1]
    refine ab_go ok_Mo_fewest 5 rfl ?_
    show ab_Z m_Mo_fewest _ _ _ 19 [_, _, _, _, _, _, _, _] [] _
    have main : ∀ n w best s2, w ≤ nc ^ om → nc ^ om - w ≤ n → Kr w4 s s2 → OpI s2 p nd → ((best = -2 ∧ ∀ x, x < w → okD V PT nd (wyP p nd nc om 1 x) nd = false) ∨ ∃ b, FwW V PT p nc nd om w b ∧ setP p (wyP p nd nc om 1 b) nd < 32 ∧ best = nI (setP p (wyP p nd nc om 1 b) nd)) → ab_Z m_Mo_fewest (d + 5) (0, 0) Po 19 [some (.ref 81), some (.int y), some (.int (nI nc)), some (.int best), some (.int (nI w)), none, none, none] [] (HA fm X s2 t) := by
      intro n
      induction n with
      | zero =>
        intro w best s2 hw hn k2 o2 hI
        have hwe : w = nc ^ om := by omega
        refine ab_go ok_Mo_fewest 4 rfl ?_
        show ab_Z m_Mo_fewest _ _ _ 23 [_, _, _, _, _, _, _, _] [_, _, _] _
        rw [show s2 81 59 = nI om from by rw [hom]; exact o2.1]
        refine ab_cl ok_Mo_fewest rfl [_, _] [_] rfl rfl (Nat.le_of_ble_eq_true rfl) (t_Mo_power (d + 4) _ hom6 _ _ rfl rfl) ?_
        rintro _ _ ⟨rfl, rfl⟩
        show ab_Z m_Mo_fewest _ _ _ 24 [_, _, _, _, _, _, _, _] [_, _] _
        refine ab_br ok_Mo_fewest rfl rfl ?_ ?_
        · intro h2
          show ab_Z m_Mo_fewest _ _ _ 80 [_, _, _, _, _, _, _, _] [] _
          refine ab_go ok_Mo_fewest 1 rfl ?_
          show ab_Z m_Mo_fewest _ _ _ 81 [_, _, _, _, _, _, _, _] [_] _
          rcases hI with ⟨hb, h0⟩ | ⟨b, b1, b2, b3⟩
          · rw [hwe] at h0
            have hF2 := fb h0
            rw [hb]
            refine ab_go ok_Mo_fewest 1 rfl ?_
            show ab_Z m_Mo_fewest _ _ _ 85 [_, _, _, _, _, _, _, _] [] _
            refine ab_go ok_Mo_fewest 2 rfl ?_
            show ab_Z m_Mo_fewest _ _ _ 89 [_, _, _, _, _, _, _, _] [_] _
            have fin : Po (some (.int (-2))) (HA fm X s2 t) := by
              rw [← hPo, if_pos hF2]
              exact ⟨rfl, s2, rfl, k2⟩
            exact ab_rI ok_Mo_fewest rfl (fin)
          · rw [hwe] at b1
            obtain ⟨g1, g2⟩ := fa b b1
            rw [b3]
            refine ab_br ok_Mo_fewest rfl rfl ?_ ?_
            · intro h3
              show ab_Z m_Mo_fewest _ _ _ 85 [_, _, _, _, _, _, _, _] [] _
              exact absurd h3 (nI_l0 (by omega))
            · intro h3
              show ab_Z m_Mo_fewest _ _ _ 82 [_, _, _, _, _, _, _, _] [] _
              refine ab_go ok_Mo_fewest 2 rfl ?_
              show ab_Z m_Mo_fewest _ _ _ 84 [_, _, _, _, _, _, _, _] [_, _] _
              refine ab_br ok_Mo_fewest rfl rfl ?_ ?_
              · intro h4
                show ab_Z m_Mo_fewest _ _ _ 85 [_, _, _, _, _, _, _, _] [] _
                refine ab_go ok_Mo_fewest 2 rfl ?_
                show ab_Z m_Mo_fewest _ _ _ 89 [_, _, _, _, _, _, _, _] [_] _
                have fin : Po (some (.int (nI (setP p (wyP p nd nc om 1 b) nd)))) (HA fm X s2 t) := by
                  rw [← hPo, g1, if_neg (nI_ne2 (by omega)), if_neg (fun z => by rw [z] at h4; exact absurd h4 (by decide))]
                  exact ⟨rfl, s2, rfl, k2⟩
                exact ab_rI ok_Mo_fewest rfl (fin)
              · intro h4
                show ab_Z m_Mo_fewest _ _ _ 87 [_, _, _, _, _, _, _, _] [] _
                have hy0 : y = 0 := hy.resolve_right h4
                refine ab_go ok_Mo_fewest 1 rfl ?_
                show ab_Z m_Mo_fewest _ _ _ 88 [_, _, _, _, _, _, _, _] [_] _
                refine ab_cl ok_Mo_fewest rfl [_] [] rfl rfl (Nat.le_of_ble_eq_true rfl) (t_Mo_bits (d + 4) _ (show setP p (wyP p nd nc om 1 b) nd < 64 by omega)) ?_
                rintro _ _ ⟨rfl, rfl⟩
                show ab_Z m_Mo_fewest _ _ _ 89 [_, _, _, _, _, _, _, _] [_] _
                have fin : Po (some (.int (bcF (nI (setP p (wyP p nd nc om 1 b) nd))))) (HA fm X s2 t) := by
                  rw [← hPo, g1, if_neg (nI_ne2 (by omega)), if_pos hy0]
                  exact ⟨rfl, s2, rfl, k2⟩
                exact ab_rI ok_Mo_fewest rfl (fin)
        · intro h2
          show ab_Z m_Mo_fewest _ _ _ 25 [_, _, _, _, _, _, _, _] [] _
          exact absurd (by rw [hwe]; exact lp_out _) h2
      | succ n ih =>
        intro w best s2 hw hn k2 o2 hI
        by_cases hwe : w = nc ^ om
        · exact ih w best s2 hw (by omega) k2 o2 hI
        · have hlt : w < nc ^ om := by omega
          have hb0 := hb_few hom hlt
          have hC2 := hC.k k2
          have h114 : s2 114 = s 114 := k2.row (fun _ => rfl)
          refine ab_go ok_Mo_fewest 4 rfl ?_
          show ab_Z m_Mo_fewest _ _ _ 23 [_, _, _, _, _, _, _, _] [_, _, _] _
          rw [show s2 81 59 = nI om from by rw [hom]; exact o2.1]
          refine ab_cl ok_Mo_fewest rfl [_, _] [_] rfl rfl (Nat.le_of_ble_eq_true rfl) (t_Mo_power (d + 4) _ hom6 _ _ rfl rfl) ?_
          rintro _ _ ⟨rfl, rfl⟩
          show ab_Z m_Mo_fewest _ _ _ 24 [_, _, _, _, _, _, _, _] [_, _] _
          refine ab_br ok_Mo_fewest rfl rfl ?_ ?_
          · intro h2
            show ab_Z m_Mo_fewest _ _ _ 80 [_, _, _, _, _, _, _, _] [] _
            exact absurd h2 (lp_in (by omega) hlt)
          · intro h2
            show ab_Z m_Mo_fewest _ _ _ 25 [_, _, _, _, _, _, _, _] [] _
            refine ab_go ok_Mo_fewest 3 rfl ?_
            show ab_Z m_Mo_fewest _ _ _ 28 [_, _, _, _, _, _, _, _] [_, _, _] _
            refine ab_cl ok_Mo_fewest rfl [_, _, _] [] rfl ⟨_, _, rfl, rfl, Or.inl ⟨_, _, rfl, rfl⟩⟩ (Nat.le_of_ble_eq_true rfl) (t_Mo_goesBy d fm X s2 T t hC2 V (by rw [h114]; exact hV) p hp om hom o2 (base := nc) (k0 := 1) rfl (by decide) hlt _ rfl) ?_
            rintro _ _ ⟨s3, rfl, k3, hcase⟩
            have k23 := k2.tr k3.m34
            have o3 : OpI s3 p nd := OpI.of (k3 81 59 rfl) (k3.row (fun _ => rfl)) o2
            rcases hcase with ⟨rfl, hok, hv3⟩ | ⟨e0, he0, hp0, rfl, hno⟩
            · show ab_Z m_Mo_fewest _ _ _ 29 [_, _, _, _, _, _, _, _] [_] _
              refine ab_go ok_Mo_fewest 2 rfl ?_
              show ab_Z m_Mo_fewest _ _ _ 31 [_, _, _, _, _, _, _, _] [_] _
              refine ab_br ok_Mo_fewest rfl rfl ?_ ?_
              · intro h3
                show ab_Z m_Mo_fewest _ _ _ 36 [_, _, _, _, _, _, _, _] [] _
                refine ab_go ok_Mo_fewest 6 rfl ?_
                show ab_Z m_Mo_fewest _ _ _ 42 [_, _, _, _, _, _, _, _] [] _
                have hO : dgO (opN V nd) (wyP p nd nc om 1 w) := wyP_O h6 hp
                have hD5 : ∀ e, wyP p nd nc om 1 w e ≤ nc := wyP_le (base := nc) (k0 := 1) rfl hb0 hom
                have hDe : ∀ e, e < nd → p e = true → wyP p nd nc om 1 w e ≠ 0 := fun e he hpe => by unfold wyP; rw [if_pos ⟨he, hpe⟩]; omega
                have hSt := st_P (V := V) (PT := PT) (nc := nc) h6 hO hD5 h5 nd (Nat.le_refl _)
                have hrow : ∀ e, e < nd → p e = true → s3 115 (15 + e) = nI (wyP p nd nc om 1 w e - 1) := by
                  intro e he hpe
                  rw [← vR_s (T := T) (r := s3 115) h5 h6 he, hv3, hSt.2.2.1 e he, if_pos ⟨he, hDe e he hpe⟩]
                have hlt32 : ∀ e, e ≤ nd → setP p (wyP p nd nc om 1 w) e < 32 := by
                  intro e he
                  refine Nat.lt_of_lt_of_le ?_ (Nat.pow_le_pow_right (by decide) h5 : 2 ^ nc ≤ 2 ^ 5)
                  apply Nat.lt_pow_two_of_testBit
                  intro i hi
                  cases hx : (setP p (wyP p nd nc om 1 w) e).testBit i
                  · rfl
                  · obtain ⟨e2, q1, q2, q3⟩ := (setP_tb p _ i e).mp hx
                    have := hD5 e2
                    have := hDe e2 (by omega) q2
                    omega
                have sets : ∀ k, k ≤ om → ∀ e, e ≤ nd → cntN p e = k → ab_Z m_Mo_fewest (d + 5) (0, 0) Po 42 [some (.ref 81), some (.int y), some (.int (nI nc)), some (.int best), some (.int (nI (w + 1))), none, some (.int (nI (setP p (wyP p nd nc om 1 w) e))), some (.int (nI k))] [] (HA fm X s3 t) := by
                  intro k hk
                  refine lp_dn (om - k) (fun j => ∀ e, e ≤ nd → cntN p e = k + j → ab_Z m_Mo_fewest (d + 5) (0, 0) Po 42 [some (.ref 81), some (.int y), some (.int (nI nc)), some (.int best), some (.int (nI (w + 1))), none, some (.int (nI (setP p (wyP p nd nc om 1 w) e))), some (.int (nI (k + j)))] [] (HA fm X s3 t)) ?_ ?_
                  · intro e he hc
                    rw [show k + (om - k) = om by omega] at hc ⊢
                    rw [← setP_sk (p := p) (D := wyP p nd nc om 1 w) he (fun j a b => cnt_eq_no (hc.trans hom) j a b)]
                    have hU := hlt32 nd (Nat.le_refl _)
                    obtain ⟨U, hUe⟩ : ∃ U, U = setP p (wyP p nd nc om 1 w) nd := ⟨_, rfl⟩
                    rw [← hUe] at hU ⊢
                    have take : (∀ x, x < w → okD V PT nd (wyP p nd nc om 1 x) nd = true → pcN U < pcN (setP p (wyP p nd nc om 1 x) nd) ∨ pcN U = pcN (setP p (wyP p nd nc om 1 x) nd) ∧ U ≤ setP p (wyP p nd nc om 1 x) nd) → ab_Z m_Mo_fewest (d + 5) (0, 0) Po 19 [some (.ref 81), some (.int y), some (.int (nI nc)), some (.int (nI U)), some (.int (nI (w + 1))), none, none, none] [] (HA fm X s3 t) := by
                      intro hb
                      refine ih (w + 1) (nI U) s3 (by omega) (by omega) k23 o3 (Or.inr ⟨w, ⟨by omega, hok, fun x hx hxo => ?_⟩, by rw [← hUe]; exact hU, by rw [← hUe]⟩)
                      by_cases hxw : x = w
                      · rw [hxw]; exact Or.inr ⟨rfl, Nat.le_refl _⟩
                      · rw [← hUe]; exact hb x (by omega) hxo
                    refine ab_go ok_Mo_fewest 3 rfl ?_
                    show ab_Z m_Mo_fewest _ _ _ 45 [_, _, _, _, _, _, _, _] [_, _] _
                    rw [show s3 81 59 = nI om from by rw [hom]; exact o3.1]
                    refine ab_br ok_Mo_fewest rfl rfl ?_ ?_
                    · intro h4
                      show ab_Z m_Mo_fewest _ _ _ 62 [_, _, _, _, _, _, _, _] [] _
                      refine ab_go ok_Mo_fewest 1 rfl ?_
                      show ab_Z m_Mo_fewest _ _ _ 63 [_, _, _, _, _, _, _, _] [_] _
                      rcases hI with ⟨hb, h0⟩ | ⟨b, b1, b2, b3⟩
                      · rw [hb]
                        refine ab_go ok_Mo_fewest 1 rfl ?_
                        show ab_Z m_Mo_fewest _ _ _ 77 [_, _, _, _, _, _, _, _] [] _
                        refine ab_go ok_Mo_fewest 3 rfl ?_
                        show ab_Z m_Mo_fewest _ _ _ 19 [_, _, _, _, _, _, _, _] [] _
                        exact take (fun x hx hxo => by rw [h0 x hx] at hxo; cases hxo)
                      · rw [b3]
                        have keep : (pcN (setP p (wyP p nd nc om 1 b) nd) < pcN U ∨ pcN (setP p (wyP p nd nc om 1 b) nd) = pcN U ∧ setP p (wyP p nd nc om 1 b) nd ≤ U) → ab_Z m_Mo_fewest (d + 5) (0, 0) Po 19 [some (.ref 81), some (.int y), some (.int (nI nc)), some (.int (nI (setP p (wyP p nd nc om 1 b) nd))), some (.int (nI (w + 1))), none, none, none] [] (HA fm X s3 t) := by
                          intro hb
                          refine ih (w + 1) _ s3 (by omega) (by omega) k23 o3 (Or.inr ⟨b, ⟨by have := b1.1; omega, b1.2.1, fun x hx hxo => ?_⟩, b2, rfl⟩)
                          by_cases hxw : x = w
                          · rw [hxw, ← hUe]; exact hb
                          · exact b1.2.2 x (by omega) hxo
                        have tk : (pcN U < pcN (setP p (wyP p nd nc om 1 b) nd) ∨ pcN U = pcN (setP p (wyP p nd nc om 1 b) nd) ∧ U < setP p (wyP p nd nc om 1 b) nd) → ab_Z m_Mo_fewest (d + 5) (0, 0) Po 19 [some (.ref 81), some (.int y), some (.int (nI nc)), some (.int (nI U)), some (.int (nI (w + 1))), none, none, none] [] (HA fm X s3 t) := by
                          intro hb
                          refine take (fun x hx hxo => ?_)
                          have := b1.2.2 x hx hxo
                          omega
                        generalize hBe : setP p (wyP p nd nc om 1 b) nd = B at b2 keep tk ⊢
                        refine ab_br ok_Mo_fewest rfl rfl ?_ ?_
                        · intro h7
                          show ab_Z m_Mo_fewest _ _ _ 77 [_, _, _, _, _, _, _, _] [] _
                          exact absurd h7 (nI_l0 (by omega))
                        · intro h7
                          show ab_Z m_Mo_fewest _ _ _ 64 [_, _, _, _, _, _, _, _] [] _
                          refine ab_go ok_Mo_fewest 1 rfl ?_
                          show ab_Z m_Mo_fewest _ _ _ 65 [_, _, _, _, _, _, _, _] [_] _
                          refine ab_cl ok_Mo_fewest rfl [_] [] rfl rfl (Nat.le_of_ble_eq_true rfl) (t_Mo_bits (d + 4) _ (show U < 64 by omega)) ?_
                          rintro _ _ ⟨rfl, rfl⟩
                          show ab_Z m_Mo_fewest _ _ _ 66 [_, _, _, _, _, _, _, _] [_] _
                          refine ab_go ok_Mo_fewest 1 rfl ?_
                          show ab_Z m_Mo_fewest _ _ _ 67 [_, _, _, _, _, _, _, _] [_, _] _
                          refine ab_cl ok_Mo_fewest rfl [_] [_] rfl rfl (Nat.le_of_ble_eq_true rfl) (t_Mo_bits (d + 4) _ (show B < 64 by omega)) ?_
                          rintro _ _ ⟨rfl, rfl⟩
                          show ab_Z m_Mo_fewest _ _ _ 68 [_, _, _, _, _, _, _, _] [_, _] _
                          refine ab_br ok_Mo_fewest rfl rfl ?_ ?_
                          · intro h8
                            show ab_Z m_Mo_fewest _ _ _ 77 [_, _, _, _, _, _, _, _] [] _
                            have h8' := (bc_lt (show U < 64 by omega) (show B < 64 by omega)).mp h8
                            refine ab_go ok_Mo_fewest 3 rfl ?_
                            show ab_Z m_Mo_fewest _ _ _ 19 [_, _, _, _, _, _, _, _] [] _
                            exact tk (Or.inl h8')
                          · intro h8
                            show ab_Z m_Mo_fewest _ _ _ 69 [_, _, _, _, _, _, _, _] [] _
                            have h8' : ¬ pcN U < pcN B := fun z => h8 ((bc_lt (by omega) (by omega)).mpr z)
                            refine ab_go ok_Mo_fewest 1 rfl ?_
                            show ab_Z m_Mo_fewest _ _ _ 70 [_, _, _, _, _, _, _, _] [_] _
                            refine ab_cl ok_Mo_fewest rfl [_] [] rfl rfl (Nat.le_of_ble_eq_true rfl) (t_Mo_bits (d + 4) _ (show U < 64 by omega)) ?_
                            rintro _ _ ⟨rfl, rfl⟩
                            show ab_Z m_Mo_fewest _ _ _ 71 [_, _, _, _, _, _, _, _] [_] _
                            refine ab_go ok_Mo_fewest 1 rfl ?_
                            show ab_Z m_Mo_fewest _ _ _ 72 [_, _, _, _, _, _, _, _] [_, _] _
                            refine ab_cl ok_Mo_fewest rfl [_] [_] rfl rfl (Nat.le_of_ble_eq_true rfl) (t_Mo_bits (d + 4) _ (show B < 64 by omega)) ?_
                            rintro _ _ ⟨rfl, rfl⟩
                            show ab_Z m_Mo_fewest _ _ _ 73 [_, _, _, _, _, _, _, _] [_, _] _
                            refine ab_br ok_Mo_fewest rfl rfl ?_ ?_
                            · intro h9
                              show ab_Z m_Mo_fewest _ _ _ 74 [_, _, _, _, _, _, _, _] [] _
                              have h9' := (bc_eq (show U < 64 by omega) (show B < 64 by omega)).mp h9
                              refine ab_go ok_Mo_fewest 2 rfl ?_
                              show ab_Z m_Mo_fewest _ _ _ 76 [_, _, _, _, _, _, _, _] [_, _] _
                              refine ab_br ok_Mo_fewest rfl rfl ?_ ?_
                              · intro h10
                                show ab_Z m_Mo_fewest _ _ _ 79 [_, _, _, _, _, _, _, _] [] _
                                have h10' := (nI_leI (show B < 2 ^ 31 by omega) (show U < 2 ^ 31 by omega)).mp h10
                                refine ab_go ok_Mo_fewest 1 rfl ?_
                                show ab_Z m_Mo_fewest _ _ _ 19 [_, _, _, _, _, _, _, _] [] _
                                exact keep (Or.inr ⟨h9'.symm, h10'⟩)
                              · intro h10
                                show ab_Z m_Mo_fewest _ _ _ 77 [_, _, _, _, _, _, _, _] [] _
                                have h10' : ¬ B ≤ U := fun z => h10 ((nI_leI (show B < 2 ^ 31 by omega) (show U < 2 ^ 31 by omega)).mpr z)
                                refine ab_go ok_Mo_fewest 3 rfl ?_
                                show ab_Z m_Mo_fewest _ _ _ 19 [_, _, _, _, _, _, _, _] [] _
                                exact tk (Or.inr ⟨h9', by omega⟩)
                            · intro h9
                              show ab_Z m_Mo_fewest _ _ _ 79 [_, _, _, _, _, _, _, _] [] _
                              have h9' : ¬ pcN U = pcN B := fun z => h9 ((bc_eq (by omega) (by omega)).mpr z)
                              refine ab_go ok_Mo_fewest 1 rfl ?_
                              show ab_Z m_Mo_fewest _ _ _ 19 [_, _, _, _, _, _, _, _] [] _
                              exact keep (Or.inl (by omega))
                    · intro h4
                      show ab_Z m_Mo_fewest _ _ _ 46 [_, _, _, _, _, _, _, _] [] _
                      exact absurd (lp_out om) h4
                  · intro j hj ihj e he hc
                    obtain ⟨e1, he1, hp1, hc1⟩ := cnt_at p (show k + j < cntN p nd by omega)
                    have hee : e ≤ e1 := by
                      rcases Nat.lt_or_ge e1 e with h | h
                      · have := cnt_lt hp1 h; omega
                      · exact h
                    rw [← setP_sk (p := p) (D := wyP p nd nc om 1 w) hee (fun j a b => cnt_eq_no (hc.trans hc1.symm) j a b)]
                    have hod : s3 120 (k + j) = nI e1 := by rw [← hc1]; exact o3.2 e1 he1 hp1
                    have hkj : k + j < 6 := by omega
                    have hd1 := hD5 e1
                    refine ab_go ok_Mo_fewest 3 rfl ?_
                    show ab_Z m_Mo_fewest _ _ _ 45 [_, _, _, _, _, _, _, _] [_, _] _
                    rw [show s3 81 59 = nI om from by rw [hom]; exact o3.1]
                    refine ab_br ok_Mo_fewest rfl rfl ?_ ?_
                    · intro h4
                      show ab_Z m_Mo_fewest _ _ _ 62 [_, _, _, _, _, _, _, _] [] _
                      exact absurd h4 (lp_in (by omega) (by omega))
                    · intro h4
                      show ab_Z m_Mo_fewest _ _ _ 46 [_, _, _, _, _, _, _, _] [] _
                      refine ab_go ok_Mo_fewest 8 rfl ?_
                      show ab_Z m_Mo_fewest _ _ _ 54 [_, _, _, _, _, _, _, _] [_, _, _, _, _, _] _
                      refine ab_ia ok_Mo_fewest rfl rfl (k := (k + j)) (by first | rfl | (simp only [LL1, LL2, LL3, LL4, LL5, LL6, LL7, LL8, LL10, LL15, LL18, LL20, LL21, LL22, LL23, LL24, LL32, LL39, LL40, LL130, LL420, pk_mul, nI_add]; done) | (simp only [LL1, LL2, LL3, LL4, LL5, LL6, LL7, LL8, LL10, LL15, LL18, LL20, LL21, LL22, LL23, LL24, LL32, LL39, LL40, LL130, LL420, pk_mul, nI_add]; congr 1; omega)) (by omega) (Nat.le_of_ble_eq_true rfl) ?_
                      show ab_Z m_Mo_fewest _ _ _ 55 [_, _, _, _, _, _, _, _] [_, _, _, _, _] _
                      rw [hod]
                      refine ab_go ok_Mo_fewest 1 rfl ?_
                      show ab_Z m_Mo_fewest _ _ _ 56 [_, _, _, _, _, _, _, _] [_, _, _, _] _
                      refine ab_ia ok_Mo_fewest rfl rfl (k := (15 + e1)) (by first | rfl | (simp only [LL1, LL2, LL3, LL4, LL5, LL6, LL7, LL8, LL10, LL15, LL18, LL20, LL21, LL22, LL23, LL24, LL32, LL39, LL40, LL130, LL420, pk_mul, nI_add]; done) | (simp only [LL1, LL2, LL3, LL4, LL5, LL6, LL7, LL8, LL10, LL15, LL18, LL20, LL21, LL22, LL23, LL24, LL32, LL39, LL40, LL130, LL420, pk_mul, nI_add]; congr 1; omega)) (by omega) (Nat.le_of_ble_eq_true rfl) ?_
                      show ab_Z m_Mo_fewest _ _ _ 57 [_, _, _, _, _, _, _, _] [_, _, _] _
                      rw [hrow e1 he1 hp1]
                      refine ab_go ok_Mo_fewest 5 rfl ?_
                      show ab_Z m_Mo_fewest _ _ _ 42 [_, _, _, _, _, _, _, _] [] _
                      rw [nI_shl _ (by omega), nI_or]
                      have ih3 := ihj (e1 + 1) (by omega) (by rw [cntN, hp1, hc1]; rfl)
                      rw [setP, if_pos hp1, ← Nat.add_assoc, nI_succ (k + j)] at ih3
                      exact ih3
                exact sets 0 (by omega) 0 (by omega) rfl
              · intro h3
                show ab_Z m_Mo_fewest _ _ _ 32 [_, _, _, _, _, _, _, _] [] _
                exact absurd (nI_pos' (by omega)) h3
            · have hncp : 0 < nc := by
                rcases hb0 with h | h
                · exact h
                · have := cnt_lt hp0 he0; omega
              obtain ⟨sz, hsz⟩ : ∃ sz, sz = nc ^ (om - 1 - cntN p e0) := ⟨_, rfl⟩
              rw [← hsz]
              obtain ⟨n1, n2⟩ := w_next (p := p) (nd := nd) (om := om) (base := nc) hncp hom he0 hp0 hsz hlt
              have hskip := fun z => wyP_sk (x := z) (p := p) (nd := nd) (om := om) (base := nc) (k0 := 1) (w := w) hncp hom he0 hp0 hsz
              generalize (w / sz + 1) * sz = x at n1 n2 hskip ⊢
              show ab_Z m_Mo_fewest _ _ _ 29 [_, _, _, _, _, _, _, _] [_] _
              refine ab_go ok_Mo_fewest 2 rfl ?_
              show ab_Z m_Mo_fewest _ _ _ 31 [_, _, _, _, _, _, _, _] [_] _
              refine ab_br ok_Mo_fewest rfl rfl ?_ ?_
              · intro h3
                show ab_Z m_Mo_fewest _ _ _ 36 [_, _, _, _, _, _, _, _] [] _
                have := i_leK (z := 0) rfl h3
                rw [i_negI (by rw [nI_t (by omega)]; omega), nI_t (by omega)] at this
                omega
              · intro h3
                show ab_Z m_Mo_fewest _ _ _ 32 [_, _, _, _, _, _, _, _] [] _
                refine ab_go ok_Mo_fewest 4 rfl ?_
                show ab_Z m_Mo_fewest _ _ _ 19 [_, _, _, _, _, _, _, _] [] _
                rw [Int32.neg_neg]
                have hbad : ∀ z, w ≤ z → z < x → okD V PT nd (wyP p nd nc om 1 z) nd = false := by
                  intro z hy1 hy2
                  refine ok_no ?_ (show e0 + 1 ≤ nd by omega)
                  rw [(st_cg (V := V) (PT := PT) (nd := nd) (hskip z hy1 hy2)).2]
                  exact hno
                refine ih x best s3 n2 (by omega) k23 o3 ?_
                rcases hI with ⟨h0, h01⟩ | ⟨b, b1, b2, b3⟩
                · refine Or.inl ⟨h0, fun z hz => ?_⟩
                  rcases Nat.lt_or_ge z w with h | h
                  · exact h01 z h
                  · exact hbad z h hz
                · refine Or.inr ⟨b, ⟨by have := b1.1; omega, b1.2.1, fun z hz hzo => ?_⟩, b2, b3⟩
                  rcases Nat.lt_or_ge z w with h | h
                  · exact b1.2.2 z h hzo
                  · rw [hbad z h hz] at hzo; cases hzo
    exact main (nc ^ om) 0 (-2) s1 (by omega) (by omega) k1.m64 o1 (Or.inl ⟨rfl, fun x hx => absurd hx (by omega)⟩)
end

