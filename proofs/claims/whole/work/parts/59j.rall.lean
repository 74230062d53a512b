section
variable (d : Nat) (fm : Value) (X : Nat × (Nat → Int32)) (s T : Nat → Nat → Int32) (t : Nat → Nat → Int64)
variable {lv nc nd nt : Nat} {PT PG PB PF : List (List Ins)}
theorem t_Mo_fillsAll (hC : RC s lv T nc nd nt PT PG PB PF) (hQ : QI (vR T nc nd (s 114)) nc nd nt) (V : Nat → Nat → Int32) (hV : V = vR T nc nd (s 114)) (p : Nat → Bool) (hp : p = openB V) (om : Nat) (hom : om = cntN p nd) : ab_T g_Mo_fillsAll (d + 5) (0, 0) [.ref 81] (HA fm X s t) (fun v h => ∃ r s' b, v = some (.int r) ∧ h = HA fm X s' t ∧ Kr w4 s s' ∧ BsW V PT PB p nc nd om ((nc + 1) ^ om) b ∧ r.toInt = plM V PT PB nd (wyP p nd (nc + 1) om 0 b) ∧ ∀ e, e < nd → s' 121 e = if wyP p nd (nc + 1) om 0 b e = 0 then -2 else nI (wyP p nd (nc + 1) om 0 b e - 1)) := by
  have h5 := hC.1.2.2.1.2
  have h6 := hC.1.2.2.2.1.2
  have hlv := hC.1.2.1
  rw [← hV] at hQ
  have hom6 : om ≤ 6 := by have := cnt_le p nd; omega
  have hW6 : (nc + 1) ^ om ≤ 46656 := Nat.le_trans (Nat.pow_le_pow_left (show nc + 1 ≤ 6 by omega) om) (Nat.pow_le_pow_right (by decide) hom6 : 6 ^ om ≤ 6 ^ 6)
  generalize hPo : (fun v h => ∃ r s' b, v = some (.int r) ∧ h = HA fm X s' t ∧ Kr w4 s s' ∧ BsW V PT PB p nc nd om ((nc + 1) ^ om) b ∧ r.toInt = plM V PT PB nd (wyP p nd (nc + 1) om 0 b) ∧ ∀ e, e < nd → s' 121 e = if wyP p nd (nc + 1) om 0 b e = 0 then -2 else nI (wyP p nd (nc + 1) om 0 b e - 1) : Option Value → ab_H → Prop) = Po
  have hO : ∀ x, dgO (opN V nd) (wyP p nd (nc + 1) om 0 x) := fun x => wyP_O h6 hp
  have hD5 : ∀ x e, wyP p nd (nc + 1) om 0 x e ≤ nc := fun x => wyP_le (k0 := 0) rfl (Or.inl (by omega)) hom
  refine ab_T_of (M := m_Mo_fillsAll) rfl rfl (Nat.le_of_ble_eq_true rfl) ?_
  show ab_Z m_Mo_fillsAll _ _ _ 0 [_, _, _, _, _, _, _] [] _
  refine ab_go ok_Mo_fillsAll 1 rfl ?_
  show ab_Z m_Mo_fillsAll _ _ _ 1 [_, _, _, _, _, _, _] [_] _
  refine ab_cl ok_Mo_fillsAll rfl [_] [] rfl ⟨_, _, rfl, rfl, Or.inl ⟨_, _, rfl, rfl⟩⟩ (Nat.le_of_ble_eq_true rfl) (t_Mo_fillsOpen (d + 1) fm X s T t hC.1) ?_
  rintro _ _ ⟨rfl, s1, rfl, k1, o1, hm2⟩
  show ab_Z m_Mo_fillsAll _ _ _ 2 [_, _, _, _, _, _, _] [] _
  rw [← hV, ← hp] at o1
  have hC1 := hC.k k1.m64
  refine ab_go ok_Mo_fillsAll 4 rfl ?_
  show ab_Z m_Mo_fillsAll _ _ _ 6 [_, _, _, _, _, _, _] [_, _] _
  rw [hC1.1.1]
  refine ab_ia ok_Mo_fillsAll rfl rfl (k := lv) (by first | rfl | (simp only [LL1, LL2, LL3, LL4, LL5, LL6, LL7, LL8, LL10, LL15, LL18, LL20, LL21, LL22, LL23, LL24, LL32, LL39, LL40, LL130, LL420, pk_mul, nI_add]; done) | (simp only [LL1, LL2, LL3, LL4, LL5, LL6, LL7, LL8, LL10, LL15, LL18, LL20, LL21, LL22, LL23, LL24, LL32, LL39, LL40, LL130, LL420, pk_mul, nI_add]; congr 1; omega)) (by omega) (Nat.le_of_ble_eq_true rfl) ?_
  show ab_Z m_Mo_fillsAll _ _ _ 7 [_, _, _, _, _, _, _] [_] _
  rw [hC1.1.2.2.1.1]
  refine ab_go ok_Mo_fillsAll 7 rfl ?_
  show ab_Z m_Mo_fillsAll _ _ _ 14 [_, _, _, _, _, _, _] [] _
  rw [← nI_succ]
  have main : ∀ n w most s2, w ≤ (nc + 1) ^ om → (nc + 1) ^ om - w ≤ n → Kr w4 s s2 → OpI s2 p nd → ((most = -1 ∧ (∀ x, x < w → okD V PT nd (wyP p nd (nc + 1) om 0 x) nd = false) ∧ ∀ e, e < nd → s2 121 e = -2) ∨ ∃ b, BsW V PT PB p nc nd om w b ∧ most.toInt = plM V PT PB nd (wyP p nd (nc + 1) om 0 b) ∧ ∀ e, e < nd → s2 121 e = if wyP p nd (nc + 1) om 0 b e = 0 then -2 else nI (wyP p nd (nc + 1) om 0 b e - 1)) → ab_Z m_Mo_fillsAll (d + 5) (0, 0) Po 14 [some (.ref 81), some (.int (nI (nc + 1))), some (.int most), some (.int (nI w)), none, none, none] [] (HA fm X s2 t) := by
    intro n
    induction n with
    | zero =>
      intro w most s2 hw hn k2 o2 hI
      have hwe : w = (nc + 1) ^ om := by omega
      refine ab_go ok_Mo_fillsAll 4 rfl ?_
      show ab_Z m_Mo_fillsAll _ _ _ 18 [_, _, _, _, _, _, _] [_, _, _] _
      rw [show s2 81 59 = nI om from by rw [hom]; exact o2.1]
      refine ab_cl ok_Mo_fillsAll rfl [_, _] [_] rfl rfl (Nat.le_of_ble_eq_true rfl) (t_Mo_power (d + 4) _ hom6 _ _ rfl rfl) ?_
      rintro _ _ ⟨rfl, rfl⟩
      show ab_Z m_Mo_fillsAll _ _ _ 19 [_, _, _, _, _, _, _] [_, _] _
      refine ab_br ok_Mo_fillsAll rfl rfl ?_ ?_
      · intro h1
        show ab_Z m_Mo_fillsAll _ _ _ 83 [_, _, _, _, _, _, _] [] _
        refine ab_go ok_Mo_fillsAll 1 rfl ?_
        show ab_Z m_Mo_fillsAll _ _ _ 84 [_, _, _, _, _, _, _] [_] _
        have fin : Po (some (.int most)) (HA fm X s2 t) := by
          rw [← hPo]
          rcases hI with ⟨-, h2, -⟩ | ⟨b, b1, b2, b3⟩
          · have h0 := h2 0 (by rw [hwe]; exact Nat.pow_pos (by omega))
            have hz : ∀ e, wyP p nd (nc + 1) om 0 0 e = 0 := fun e => by
              unfold wyP wyG
              rw [Nat.zero_div, Nat.zero_mod]
              split <;> rfl
            have := (st_sk (V := V) (PT := PT) (nd := nd) (D := wyP p nd (nc + 1) om 0 0) (Nat.zero_le nd) (fun j _ _ => hz j)).2
            rw [h0] at this
            exact absurd (this.symm) (by rw [okD]; decide)
          · rw [hwe] at b1
            exact ⟨most, s2, b, rfl, rfl, k2, b1, b2, b3⟩
        exact ab_rI ok_Mo_fillsAll rfl (fin)
      · intro h1
        show ab_Z m_Mo_fillsAll _ _ _ 20 [_, _, _, _, _, _, _] [] _
        exact absurd (by rw [hwe]; exact lp_out _) h1
    | succ n ih =>
      intro w most s2 hw hn k2 o2 hI
      by_cases hwe : w = (nc + 1) ^ om
      · exact ih w most s2 hw (by omega) k2 o2 hI
      · have hlt : w < (nc + 1) ^ om := by omega
        have hC2 := hC.k k2
        have h114 : s2 114 = s 114 := k2.row (fun _ => rfl)
        refine ab_go ok_Mo_fillsAll 4 rfl ?_
        show ab_Z m_Mo_fillsAll _ _ _ 18 [_, _, _, _, _, _, _] [_, _, _] _
        rw [show s2 81 59 = nI om from by rw [hom]; exact o2.1]
        refine ab_cl ok_Mo_fillsAll rfl [_, _] [_] rfl rfl (Nat.le_of_ble_eq_true rfl) (t_Mo_power (d + 4) _ hom6 _ _ rfl rfl) ?_
        rintro _ _ ⟨rfl, rfl⟩
        show ab_Z m_Mo_fillsAll _ _ _ 19 [_, _, _, _, _, _, _] [_, _] _
        refine ab_br ok_Mo_fillsAll rfl rfl ?_ ?_
        · intro h1
          show ab_Z m_Mo_fillsAll _ _ _ 83 [_, _, _, _, _, _, _] [] _
          exact absurd h1 (lp_in (by omega) hlt)
        · intro h1
          show ab_Z m_Mo_fillsAll _ _ _ 20 [_, _, _, _, _, _, _] [] _
          refine ab_go ok_Mo_fillsAll 3 rfl ?_
          show ab_Z m_Mo_fillsAll _ _ _ 23 [_, _, _, _, _, _, _] [_, _, _] _
          refine ab_cl ok_Mo_fillsAll rfl [_, _, _] [] rfl ⟨_, _, rfl, rfl, Or.inl ⟨_, _, rfl, rfl⟩⟩ (Nat.le_of_ble_eq_true rfl) (t_Mo_goesBy d fm X s2 T t hC2 V (by rw [h114]; exact hV) p hp om hom o2 (base := nc + 1) (k0 := 0) rfl (by decide) hlt _ rfl) ?_
          rintro _ _ ⟨s3, rfl, k3, hcase⟩
          have k23 := k2.tr k3.m34
          have o3 : OpI s3 p nd := OpI.of (k3 81 59 rfl) (k3.row (fun _ => rfl)) o2
          rcases hcase with ⟨rfl, hok, hv3⟩ | ⟨e0, he0, hp0, rfl, hno⟩
          · show ab_Z m_Mo_fillsAll _ _ _ 24 [_, _, _, _, _, _, _] [_] _
            refine ab_go ok_Mo_fillsAll 2 rfl ?_
            show ab_Z m_Mo_fillsAll _ _ _ 26 [_, _, _, _, _, _, _] [_] _
            refine ab_br ok_Mo_fillsAll rfl rfl ?_ ?_
            · intro h2
              show ab_Z m_Mo_fillsAll _ _ _ 31 [_, _, _, _, _, _, _] [] _
              refine ab_go ok_Mo_fillsAll 6 rfl ?_
              show ab_Z m_Mo_fillsAll _ _ _ 37 [_, _, _, _, _, _, _] [] _
              have hC3 := hC.k k23
              have sums : ∀ k, k ≤ om → ∀ e s4, e ≤ nd → cntN p e = k → Kr w1 s3 s4 → ab_Z m_Mo_fillsAll (d + 5) (0, 0) Po 37 [some (.ref 81), some (.int (nI (nc + 1))), some (.int most), some (.int (nI (w + 1))), none, some (.int (sumP p (plB V PT PB nd (wyP p nd (nc + 1) om 0 w)) e)), some (.int (nI k))] [] (HA fm X s4 t) := by
                intro k hk
                refine lp_dn (om - k) (fun j => ∀ e s4, e ≤ nd → cntN p e = k + j → Kr w1 s3 s4 → ab_Z m_Mo_fillsAll (d + 5) (0, 0) Po 37 [some (.ref 81), some (.int (nI (nc + 1))), some (.int most), some (.int (nI (w + 1))), none, some (.int (sumP p (plB V PT PB nd (wyP p nd (nc + 1) om 0 w)) e)), some (.int (nI (k + j)))] [] (HA fm X s4 t)) ?_ ?_
                · intro e s4 he hc k4
                  rw [show k + (om - k) = om by omega] at hc ⊢
                  have k24 := k23.tr k4.m14
                  have o4 : OpI s4 p nd := OpI.of (k4 81 59 rfl) (k4.row (fun _ => rfl)) o3
                  rw [← sumP_sk (p := p) (g := plB V PT PB nd (wyP p nd (nc + 1) om 0 w)) he (fun j a b => cnt_eq_no (hc.trans hom) j a b)]
                  have hsum := plM_P (V := V) (PT := PT) (PB := PB) (nd := nd) (base := nc + 1) (om := om) (k0 := 0) (w := w) h6 hp
                  have hsr := plM_r (V := V) (PT := PT) (PB := PB) (nd := nd) (D := wyP p nd (nc + 1) om 0 w)
                  generalize sumP p (plB V PT PB nd (wyP p nd (nc + 1) om 0 w)) nd = z at hsum ⊢
                  refine ab_go ok_Mo_fillsAll 3 rfl ?_
                  show ab_Z m_Mo_fillsAll _ _ _ 40 [_, _, _, _, _, _, _] [_, _] _
                  rw [show s4 81 59 = nI om from by rw [hom]; exact o4.1]
                  refine ab_br ok_Mo_fillsAll rfl rfl ?_ ?_
                  · intro h3
                    show ab_Z m_Mo_fillsAll _ _ _ 52 [_, _, _, _, _, _, _] [] _
                    refine ab_go ok_Mo_fillsAll 2 rfl ?_
                    show ab_Z m_Mo_fillsAll _ _ _ 54 [_, _, _, _, _, _, _] [_, _] _
                    refine ab_br ok_Mo_fillsAll rfl rfl ?_ ?_
                    · intro h4
                      show ab_Z m_Mo_fillsAll _ _ _ 56 [_, _, _, _, _, _, _] [] _
                      refine ab_go ok_Mo_fillsAll 4 rfl ?_
                      show ab_Z m_Mo_fillsAll _ _ _ 60 [_, _, _, _, _, _, _] [] _
                      have hv4 : vR T nc nd (s4 115) = stD V PT nd (wyP p nd (nc + 1) om 0 w) nd := by rw [k4.row (c := 115) (fun _ => rfl)]; exact hv3
                      have hSt := st_P (V := V) (PT := PT) (nc := nc) h6 (hO w) (hD5 w) h5 nd (Nat.le_refl _)
                      have hrow : ∀ e, e < nd → p e = true → s4 115 (15 + e) = if wyP p nd (nc + 1) om 0 w e = 0 then -2 else nI (wyP p nd (nc + 1) om 0 w e - 1) := by
                        intro e he hpe
                        rw [← vR_s (T := T) (r := s4 115) h5 h6 he, hv4, hSt.2.2.1 e he]
                        by_cases h0 : wyP p nd (nc + 1) om 0 w e = 0
                        · rw [if_neg (fun y => y.2 h0), if_pos h0]
                          rw [hp] at hpe
                          exact of_decide_eq_true hpe
                        · rw [if_pos ⟨he, h0⟩, if_neg h0]
                      have hclosed : ∀ e, e < nd → p e = false → s4 121 e = -2 := by
                        intro e he hpe
                        rw [k4 121 _ rfl, k3 121 _ rfl]
                        rcases hI with ⟨-, -, h0⟩ | ⟨b, -, -, h0⟩
                        · exact h0 e he
                        · rw [h0 e he, if_pos (by unfold wyP; exact if_neg (fun y => by rw [hpe] at y; cases y.2))]
                      have puts : ∀ j, j ≤ om → ∀ s5, Kr w6 s4 s5 → s5 120 = s4 120 → s5 81 59 = s4 81 59 → (∀ e, e < nd → p e = true → cntN p e < j → s5 121 e = if wyP p nd (nc + 1) om 0 w e = 0 then -2 else nI (wyP p nd (nc + 1) om 0 w e - 1)) → (∀ e, e < nd → p e = false → s5 121 e = -2) → ab_Z m_Mo_fillsAll (d + 5) (0, 0) Po 60 [some (.ref 81), some (.int (nI (nc + 1))), some (.int z), some (.int (nI (w + 1))), none, none, some (.int (nI j))] [] (HA fm X s5 t) := by
                        intro j hj
                        refine lp_dn (om - j) (fun i => ∀ s5, Kr w6 s4 s5 → s5 120 = s4 120 → s5 81 59 = s4 81 59 → (∀ e, e < nd → p e = true → cntN p e < j + i → s5 121 e = if wyP p nd (nc + 1) om 0 w e = 0 then -2 else nI (wyP p nd (nc + 1) om 0 w e - 1)) → (∀ e, e < nd → p e = false → s5 121 e = -2) → ab_Z m_Mo_fillsAll (d + 5) (0, 0) Po 60 [some (.ref 81), some (.int (nI (nc + 1))), some (.int z), some (.int (nI (w + 1))), none, none, some (.int (nI (j + i)))] [] (HA fm X s5 t)) ?_ ?_
                        · intro s5 k5 h120 h59 hd5 hcl5
                          rw [show j + (om - j) = om by omega] at hd5 ⊢
                          refine ab_go ok_Mo_fillsAll 3 rfl ?_
                          show ab_Z m_Mo_fillsAll _ _ _ 63 [_, _, _, _, _, _, _] [_, _] _
                          rw [show s5 81 59 = nI om from by rw [h59, hom]; exact o4.1]
                          refine ab_br ok_Mo_fillsAll rfl rfl ?_ ?_
                          · intro h7
                            show ab_Z m_Mo_fillsAll _ _ _ 82 [_, _, _, _, _, _, _] [] _
                            refine ab_go ok_Mo_fillsAll 1 rfl ?_
                            show ab_Z m_Mo_fillsAll _ _ _ 14 [_, _, _, _, _, _, _] [] _
                            refine ih (w + 1) z s5 (by omega) (by omega) (k24.tr k5.m64) (OpI.of h59 h120 o4) (Or.inr ⟨w, ⟨by omega, hok, fun x hx hxo => ?_, fun x hx hxo => ?_⟩, hsum, fun e he => ?_⟩)
                            · by_cases hxw : x = w
                              · rw [hxw]; exact Int.le_refl _
                              · rcases hI with ⟨-, h0, -⟩ | ⟨b, b1, b2, -⟩
                                · rw [h0 x (by omega)] at hxo; cases hxo
                                · have := b1.2.2.1 x (by omega) hxo
                                  have := i_lt h4
                                  omega
                            · rcases hI with ⟨-, h0, -⟩ | ⟨b, b1, b2, -⟩
                              · rw [h0 x (by omega)] at hxo; cases hxo
                              · have := b1.2.2.1 x (by omega) hxo
                                have := i_lt h4
                                omega
                            · cases hpe : p e
                              · rw [hcl5 e he hpe, if_pos (by unfold wyP; exact if_neg (fun y => by rw [hpe] at y; cases y.2))]
                              · exact hd5 e he hpe (by have := cnt_lt hpe he; omega)
                          · intro h7
                            show ab_Z m_Mo_fillsAll _ _ _ 64 [_, _, _, _, _, _, _] [] _
                            exact absurd (lp_out om) h7
                        · intro i hi ihi s5 k5 h120 h59 hd5 hcl5
                          obtain ⟨e1, he1, hp1, hc1⟩ := cnt_at p (show j + i < cntN p nd by omega)
                          have hod : s5 120 (j + i) = nI e1 := by rw [h120, ← hc1]; exact o4.2 e1 he1 hp1
                          have hji : j + i < 6 := by omega
                          refine ab_go ok_Mo_fillsAll 3 rfl ?_
                          show ab_Z m_Mo_fillsAll _ _ _ 63 [_, _, _, _, _, _, _] [_, _] _
                          rw [show s5 81 59 = nI om from by rw [h59, hom]; exact o4.1]
                          refine ab_br ok_Mo_fillsAll rfl rfl ?_ ?_
                          · intro h7
                            show ab_Z m_Mo_fillsAll _ _ _ 82 [_, _, _, _, _, _, _] [] _
                            exact absurd h7 (lp_in (by omega) (by omega))
                          · intro h7
                            show ab_Z m_Mo_fillsAll _ _ _ 64 [_, _, _, _, _, _, _] [] _
                            refine ab_go ok_Mo_fillsAll 5 rfl ?_
                            show ab_Z m_Mo_fillsAll _ _ _ 69 [_, _, _, _, _, _, _] [_, _, _] _
                            refine ab_ia ok_Mo_fillsAll rfl rfl (k := (j + i)) (by first | rfl | (simp only [LL1, LL2, LL3, LL4, LL5, LL6, LL7, LL8, LL10, LL15, LL18, LL20, LL21, LL22, LL23, LL24, LL32, LL39, LL40, LL130, LL420, pk_mul, nI_add]; done) | (simp only [LL1, LL2, LL3, LL4, LL5, LL6, LL7, LL8, LL10, LL15, LL18, LL20, LL21, LL22, LL23, LL24, LL32, LL39, LL40, LL130, LL420, pk_mul, nI_add]; congr 1; omega)) (by omega) (Nat.le_of_ble_eq_true rfl) ?_
                            show ab_Z m_Mo_fillsAll _ _ _ 70 [_, _, _, _, _, _, _] [_, _] _
                            rw [hod]
                            refine ab_go ok_Mo_fillsAll 6 rfl ?_
                            show ab_Z m_Mo_fillsAll _ _ _ 76 [_, _, _, _, _, _, _] [_, _, _, _, _, _] _
                            refine ab_ia ok_Mo_fillsAll rfl rfl (k := (j + i)) (by first | rfl | (simp only [LL1, LL2, LL3, LL4, LL5, LL6, LL7, LL8, LL10, LL15, LL18, LL20, LL21, LL22, LL23, LL24, LL32, LL39, LL40, LL130, LL420, pk_mul, nI_add]; done) | (simp only [LL1, LL2, LL3, LL4, LL5, LL6, LL7, LL8, LL10, LL15, LL18, LL20, LL21, LL22, LL23, LL24, LL32, LL39, LL40, LL130, LL420, pk_mul, nI_add]; congr 1; omega)) (by omega) (Nat.le_of_ble_eq_true rfl) ?_
                            show ab_Z m_Mo_fillsAll _ _ _ 77 [_, _, _, _, _, _, _] [_, _, _, _, _] _
                            rw [hod]
                            refine ab_go ok_Mo_fillsAll 1 rfl ?_
                            show ab_Z m_Mo_fillsAll _ _ _ 78 [_, _, _, _, _, _, _] [_, _, _, _] _
                            refine ab_ia ok_Mo_fillsAll rfl rfl (k := (15 + e1)) (by first | rfl | (simp only [LL1, LL2, LL3, LL4, LL5, LL6, LL7, LL8, LL10, LL15, LL18, LL20, LL21, LL22, LL23, LL24, LL32, LL39, LL40, LL130, LL420, pk_mul, nI_add]; done) | (simp only [LL1, LL2, LL3, LL4, LL5, LL6, LL7, LL8, LL10, LL15, LL18, LL20, LL21, LL22, LL23, LL24, LL32, LL39, LL40, LL130, LL420, pk_mul, nI_add]; congr 1; omega)) (by omega) (Nat.le_of_ble_eq_true rfl) ?_
                            show ab_Z m_Mo_fillsAll _ _ _ 79 [_, _, _, _, _, _, _] [_, _, _] _
                            rw [show s5 115 (15 + e1) = if wyP p nd (nc + 1) om 0 w e1 = 0 then -2 else nI (wyP p nd (nc + 1) om 0 w e1 - 1) from by rw [k5 115 _ rfl]; exact hrow e1 he1 hp1]
                            refine ab_is ok_Mo_fillsAll rfl rfl (k := e1) (by first | rfl | (simp only [LL1, LL2, LL3, LL4, LL5, LL6, LL7, LL8, LL10, LL15, LL18, LL20, LL21, LL22, LL23, LL24, LL32, LL39, LL40, LL130, LL420, pk_mul, nI_add]; done) | (simp only [LL1, LL2, LL3, LL4, LL5, LL6, LL7, LL8, LL10, LL15, LL18, LL20, LL21, LL22, LL23, LL24, LL32, LL39, LL40, LL130, LL420, pk_mul, nI_add]; congr 1; omega)) (by omega) (Nat.le_of_ble_eq_true rfl) ?_
                            show ab_Z m_Mo_fillsAll _ _ _ 80 [_, _, _, _, _, _, _] [] _
                            refine ab_go ok_Mo_fillsAll 2 rfl ?_
                            show ab_Z m_Mo_fillsAll _ _ _ 60 [_, _, _, _, _, _, _] [] _
                            have ih3 := ihi (ab_up s5 121 e1 (if wyP p nd (nc + 1) om 0 w e1 = 0 then -2 else nI (wyP p nd (nc + 1) om 0 w e1 - 1))) (Kr.up rfl k5) (by rw [ab_up_o (by decide)]; exact h120) (by rw [ab_up_o (by decide)]; exact h59) (fun e he hpe hce => by
                              by_cases hee : e = e1
                              · subst hee; exact ab_up_s ..
                              · rw [ab_up_n hee]
                                refine hd5 e he hpe ?_
                                rcases Nat.lt_trichotomy e e1 with h | h | h
                                · have := cnt_lt hpe h; omega
                                · exact absurd h hee
                                · have := cnt_lt hp1 h; omega) (fun e he hpe => by
                              by_cases hee : e = e1
                              · rw [hee, hp1] at hpe; cases hpe
                              · rw [ab_up_n hee]; exact hcl5 e he hpe)
                            rw [← Nat.add_assoc, nI_succ (j + i)] at ih3
                            exact ih3
                      exact puts 0 (by omega) s4 (Kr.rf w6 s4) rfl rfl (fun e _ _ h => absurd h (by omega)) hclosed
                    · intro h4
                      show ab_Z m_Mo_fillsAll _ _ _ 55 [_, _, _, _, _, _, _] [] _
                      refine ab_go ok_Mo_fillsAll 1 rfl ?_
                      show ab_Z m_Mo_fillsAll _ _ _ 14 [_, _, _, _, _, _, _] [] _
                      refine ih (w + 1) most s4 (by omega) (by omega) k24 o4 ?_
                      have h4' := i_nlt h4
                      rcases hI with ⟨h0, -, -⟩ | ⟨b, b1, b2, b3⟩
                      · rw [h0] at h4'
                        have : (-1 : Int32).toInt = -1 := rfl
                        omega
                      · refine Or.inr ⟨b, ⟨by have := b1.1; omega, b1.2.1, fun x hx hxo => ?_, b1.2.2.2⟩, b2, fun e he => by rw [k4 121 _ rfl, k3 121 _ rfl]; exact b3 e he⟩
                        by_cases hxw : x = w
                        · rw [hxw]; omega
                        · exact b1.2.2.1 x (by omega) hxo
                  · intro h3
                    show ab_Z m_Mo_fillsAll _ _ _ 41 [_, _, _, _, _, _, _] [] _
                    exact absurd (lp_out om) h3
                · intro j hj ihj e s4 he hc k4
                  have k24 := k23.tr k4.m14
                  have hC4 := hC.k k24
                  have o4 : OpI s4 p nd := OpI.of (k4 81 59 rfl) (k4.row (fun _ => rfl)) o3
                  obtain ⟨e1, he1, hp1, hc1⟩ := cnt_at p (show k + j < cntN p nd by omega)
                  have hee : e ≤ e1 := by
                    rcases Nat.lt_or_ge e1 e with h | h
                    · have := cnt_lt hp1 h; omega
                    · exact h
                  rw [← sumP_sk (p := p) (g := plB V PT PB nd (wyP p nd (nc + 1) om 0 w)) hee (fun j a b => cnt_eq_no (hc.trans hc1.symm) j a b)]
                  have hod : s4 120 (k + j) = nI e1 := by rw [← hc1]; exact o4.2 e1 he1 hp1
                  have hkj : k + j < 6 := by omega
                  have hv4 : vR T nc nd (s4 115) = stD V PT nd (wyP p nd (nc + 1) om 0 w) nd := by rw [k4.row (c := 115) (fun _ => rfl)]; exact hv3
                  refine ab_go ok_Mo_fillsAll 3 rfl ?_
                  show ab_Z m_Mo_fillsAll _ _ _ 40 [_, _, _, _, _, _, _] [_, _] _
                  rw [show s4 81 59 = nI om from by rw [hom]; exact o4.1]
                  refine ab_br ok_Mo_fillsAll rfl rfl ?_ ?_
                  · intro h3
                    show ab_Z m_Mo_fillsAll _ _ _ 52 [_, _, _, _, _, _, _] [] _
                    exact absurd h3 (lp_in (by omega) (by omega))
                  · intro h3
                    show ab_Z m_Mo_fillsAll _ _ _ 41 [_, _, _, _, _, _, _] [] _
                    refine ab_go ok_Mo_fillsAll 5 rfl ?_
                    show ab_Z m_Mo_fillsAll _ _ _ 46 [_, _, _, _, _, _, _] [_, _, _, _] _
                    refine ab_ia ok_Mo_fillsAll rfl rfl (k := (k + j)) (by first | rfl | (simp only [LL1, LL2, LL3, LL4, LL5, LL6, LL7, LL8, LL10, LL15, LL18, LL20, LL21, LL22, LL23, LL24, LL32, LL39, LL40, LL130, LL420, pk_mul, nI_add]; done) | (simp only [LL1, LL2, LL3, LL4, LL5, LL6, LL7, LL8, LL10, LL15, LL18, LL20, LL21, LL22, LL23, LL24, LL32, LL39, LL40, LL130, LL420, pk_mul, nI_add]; congr 1; omega)) (by omega) (Nat.le_of_ble_eq_true rfl) ?_
                    show ab_Z m_Mo_fillsAll _ _ _ 47 [_, _, _, _, _, _, _] [_, _, _] _
                    rw [hod]
                    refine ab_cl ok_Mo_fillsAll rfl [_, _] [_] rfl ⟨_, _, rfl, rfl, Or.inl ⟨_, _, rfl, rfl⟩⟩ (Nat.le_of_ble_eq_true rfl) (t_Mo_bindsOf (d + 2) fm X s4 T t hC4 (by rw [hv4]; exact st_SI h6 (hO w) (hD5 w) h5 hQ.1) he1) ?_
                    rintro _ _ ⟨rfl, s5, rfl, k5⟩
                    show ab_Z m_Mo_fillsAll _ _ _ 48 [_, _, _, _, _, _, _] [_, _] _
                    rw [hv4, st_B h6 (hO w) (hD5 w) h5 he1 (by rw [← hp]; exact hp1)]
                    refine ab_go ok_Mo_fillsAll 4 rfl ?_
                    show ab_Z m_Mo_fillsAll _ _ _ 37 [_, _, _, _, _, _, _] [] _
                    have ih3 := ihj (e1 + 1) s5 (by omega) (by rw [cntN, hp1, hc1]; rfl) (k4.tr k5)
                    rw [sumP, if_pos hp1, ← Nat.add_assoc, nI_succ (k + j)] at ih3
                    exact ih3
              exact sums 0 (by omega) 0 s3 (by omega) rfl (Kr.rf w1 s3)
            · intro h2
              show ab_Z m_Mo_fillsAll _ _ _ 27 [_, _, _, _, _, _, _] [] _
              exact absurd (nI_pos' (by omega)) h2
          · obtain ⟨sz, hsz⟩ : ∃ sz, sz = (nc + 1) ^ (om - 1 - cntN p e0) := ⟨_, rfl⟩
            rw [← hsz]
            obtain ⟨n1, n2⟩ := w_next (p := p) (nd := nd) (om := om) (base := nc + 1) (by omega) hom he0 hp0 hsz hlt
            have hskip := fun y => wyP_sk (x := y) (p := p) (nd := nd) (om := om) (base := nc + 1) (k0 := 0) (w := w) (by omega) hom he0 hp0 hsz
            generalize (w / sz + 1) * sz = x at n1 n2 hskip ⊢
            show ab_Z m_Mo_fillsAll _ _ _ 24 [_, _, _, _, _, _, _] [_] _
            refine ab_go ok_Mo_fillsAll 2 rfl ?_
            show ab_Z m_Mo_fillsAll _ _ _ 26 [_, _, _, _, _, _, _] [_] _
            refine ab_br ok_Mo_fillsAll rfl rfl ?_ ?_
            · intro h2
              show ab_Z m_Mo_fillsAll _ _ _ 31 [_, _, _, _, _, _, _] [] _
              have := i_leK (z := 0) rfl h2
              rw [i_negI (by rw [nI_t (by omega)]; omega), nI_t (by omega)] at this
              omega
            · intro h2
              show ab_Z m_Mo_fillsAll _ _ _ 27 [_, _, _, _, _, _, _] [] _
              refine ab_go ok_Mo_fillsAll 4 rfl ?_
              show ab_Z m_Mo_fillsAll _ _ _ 14 [_, _, _, _, _, _, _] [] _
              rw [Int32.neg_neg]
              have hbad : ∀ y, w ≤ y → y < x → okD V PT nd (wyP p nd (nc + 1) om 0 y) nd = false := by
                intro y hy1 hy2
                refine ok_no ?_ (show e0 + 1 ≤ nd by omega)
                rw [(st_cg (V := V) (PT := PT) (nd := nd) (hskip y hy1 hy2)).2]
                exact hno
              refine ih x most s3 n2 (by omega) k23 o3 ?_
              rcases hI with ⟨h0, h01, h02⟩ | ⟨b, b1, b2, b3⟩
              · refine Or.inl ⟨h0, fun y hy => ?_, fun e he => by rw [k3 121 _ rfl]; exact h02 e he⟩
                rcases Nat.lt_or_ge y w with h | h
                · exact h01 y h
                · exact hbad y h hy
              · refine Or.inr ⟨b, ⟨by have := b1.1; omega, b1.2.1, fun y hy hyo => ?_, b1.2.2.2⟩, b2, fun e he => by rw [k3 121 _ rfl]; exact b3 e he⟩
                rcases Nat.lt_or_ge y w with h | h
                · exact b1.2.2.1 y h hyo
                · rw [hbad y h hy] at hyo; cases hyo
  exact main ((nc + 1) ^ om) 0 (-1) s1 (by omega) (by omega) k1.m64 o1 (Or.inl ⟨rfl, fun x hx => absurd hx (by omega), hm2⟩)
theorem t_Mo_all (hC : RC s lv T nc nd nt PT PG PB PF) (hQ : QI (vR T nc nd (s 114)) nc nd nt) (x : Int32) : ab_T g_Mo_all (d + 6) (0, 0) [.ref 81, .int x] (HA fm X s t) (PR w4 (if x = -1 then bbF (bstV (vR T nc nd (s 114)) PT PB nc nd) else if inR nd x then slrV (bstV (vR T nc nd (s 114)) PT PB nc nd) x.toNatClampNeg else -1) fm X s t) := by
  have h5 := hC.1.2.2.1.2
  have h6 := hC.1.2.2.2.1.2
  generalize hPo : PR w4 (if x = -1 then bbF (bstV (vR T nc nd (s 114)) PT PB nc nd) else if inR nd x then slrV (bstV (vR T nc nd (s 114)) PT PB nc nd) x.toNatClampNeg else -1) fm X s t = Po
  have main : (x = -1 ∨ inR nd x) → ab_Z m_Mo_all (d + 6) (0, 0) Po 9 [some (.ref 81), some (.int x), none] [] (HA fm X s t) := by
    intro hx
    refine ab_go ok_Mo_all 1 rfl ?_
    show ab_Z m_Mo_all _ _ _ 10 [_, _, _] [_] _
    refine ab_cl ok_Mo_all rfl [_] [] rfl ⟨_, _, rfl, rfl, Or.inl ⟨_, _, rfl, rfl⟩⟩ (Nat.le_of_ble_eq_true rfl) (t_Mo_fillsAll d fm X s T t hC hQ _ rfl _ rfl _ rfl) ?_
    rintro _ _ ⟨r, s1, b, rfl, rfl, k1, hB, hr, h121⟩
    show ab_Z m_Mo_all _ _ _ 11 [_, _, _] [_] _
    obtain ⟨a1, a2⟩ := bs_all h6 h5 rfl rfl hB
    rw [← a1] at hr
    have hr' := Int32.toInt_inj.mp hr
    refine ab_go ok_Mo_all 3 rfl ?_
    show ab_Z m_Mo_all _ _ _ 14 [_, _, _] [_, _] _
    refine ab_br ok_Mo_all rfl rfl ?_ ?_
    · intro h1
      show ab_Z m_Mo_all _ _ _ 15 [_, _, _] [] _
      refine ab_go ok_Mo_all 2 rfl ?_
      show ab_Z m_Mo_all _ _ _ 21 [_, _, _] [_] _
      have fin : Po (some (.int r)) (HA fm X s1 t) := by
        rw [← hPo, if_pos h1]
        exact ⟨som hr', s1, rfl, k1⟩
      exact ab_rI ok_Mo_all rfl (fin)
    · intro h1
      show ab_Z m_Mo_all _ _ _ 17 [_, _, _] [] _
      have hxr : inR nd x := hx.resolve_left h1
      rw [if_neg h1, if_pos hxr] at hPo
      obtain ⟨w, hw, rfl⟩ := inR_nat hxr
      rw [nI_c (by omega)] at hPo
      refine ab_go ok_Mo_all 3 rfl ?_
      show ab_Z m_Mo_all _ _ _ 20 [_, _, _] [_, _] _
      refine ab_ia ok_Mo_all rfl rfl (k := w) (by first | rfl | (simp only [LL1, LL2, LL3, LL4, LL5, LL6, LL7, LL8, LL10, LL15, LL18, LL20, LL21, LL22, LL23, LL24, LL32, LL39, LL40, LL130, LL420, pk_mul, nI_add]; done) | (simp only [LL1, LL2, LL3, LL4, LL5, LL6, LL7, LL8, LL10, LL15, LL18, LL20, LL21, LL22, LL23, LL24, LL32, LL39, LL40, LL130, LL420, pk_mul, nI_add]; congr 1; omega)) (by omega) (Nat.le_of_ble_eq_true rfl) ?_
      show ab_Z m_Mo_all _ _ _ 21 [_, _, _] [_] _
      have fin : Po (some (.int (s1 121 w))) (HA fm X s1 t) := by
        rw [← hPo]
        exact ⟨som (by rw [h121 w hw, a2 w (by omega)]), s1, rfl, k1⟩
      exact ab_rI ok_Mo_all rfl (fin)
  refine ab_T_of (M := m_Mo_all) rfl rfl (Nat.le_of_ble_eq_true rfl) ?_
  show ab_Z m_Mo_all _ _ _ 0 [_, _, _] [] _
  refine ab_go ok_Mo_all 2 rfl ?_
  show ab_Z m_Mo_all _ _ _ 2 [_, _, _] [_, _] _
  refine ab_br ok_Mo_all rfl rfl ?_ ?_
  · intro h1
    show ab_Z m_Mo_all _ _ _ 9 [_, _, _] [] _
    exact main (Or.inl h1)
  · intro h1
    show ab_Z m_Mo_all _ _ _ 3 [_, _, _] [] _
    refine ab_go ok_Mo_all 2 rfl ?_
    show ab_Z m_Mo_all _ _ _ 5 [_, _, _] [_, _] _
    refine ab_cl ok_Mo_all rfl [_, _] [] rfl ⟨_, _, rfl, rfl, Or.inl ⟨_, _, rfl, rfl⟩⟩ (Nat.le_of_ble_eq_true rfl) (t_Mo_isDeed (d + 4) fm X s T t hC.1 x) ?_
    rintro _ _ ⟨rfl, rfl⟩
    show ab_Z m_Mo_all _ _ _ 6 [_, _, _] [_] _
    refine ab_br ok_Mo_all rfl rfl ?_ ?_
    · intro h2
      show ab_Z m_Mo_all _ _ _ 7 [_, _, _] [] _
      refine ab_go ok_Mo_all 1 rfl ?_
      show ab_Z m_Mo_all _ _ _ 8 [_, _, _] [_] _
      have fin : Po (some (.int (-1))) (HA fm X s t) := by
        rw [← hPo, if_neg h1, if_neg (bI_0.mp h2)]
        exact ⟨rfl, s, rfl, Kr.rf w4 s⟩
      exact ab_rI ok_Mo_all rfl (fin)
    · intro h2
      show ab_Z m_Mo_all _ _ _ 9 [_, _, _] [] _
      exact main (Or.inr (bI_n0 h2))
end

