/-! the reference: match -/
theorem fst_no (p : Nat → Bool) : ∀ (n k : Nat), (∀ j, k ≤ j → j < k + n → p j = false) → fstV p k n = -2
  | 0, k, _ => rfl
  | n + 1, k, h => by
    rw [fstV, h k (Nat.le_refl _) (by omega), if_neg (by decide)]
    exact fst_no p n (k + 1) (fun j a b => h j (by omega) (by omega))
theorem lowB_cl {g : Nat → Nat → Int32} {cf : Nat → Nat} {e u c : Nat} (h : cf e = 0) : lowB g cf e u c = false := by
  unfold lowB
  rw [h, Nat.zero_testBit]
  rfl
theorem mtS_cl {g : Nat → Nat → Int32} {cf : Nat → Nat} {e : Nat} (h : cf e = 0) : mtS g cf (e + 1) = ((mtS g cf e).1, -2) := by
  rw [mtS, fst_no _ 5 0 (fun j _ _ => lowB_cl h)]
  rfl
theorem mtS_sk {g : Nat → Nat → Int32} {cf : Nat → Nat} {e : Nat} : ∀ {e1 : Nat}, e ≤ e1 → (∀ j, e ≤ j → j < e1 → cf j = 0) → (mtS g cf e1).1 = (mtS g cf e).1
  | 0, h, _ => by rw [Nat.le_zero.mp h]
  | e1 + 1, h, hn => by
    rcases Nat.lt_or_ge e1 e with h2 | h2
    · rw [show e = e1 + 1 by omega]
    · rw [mtS_cl (hn e1 h2 (by omega)), mtS_sk h2 (fun j a b => hn j a (by omega))]
section
variable (d : Nat) (fm : Value) (X : Nat × (Nat → Int32)) (s T : Nat → Nat → Int32) (t : Nat → Nat → Int64)
variable {lv nc nd nt : Nat} {PT PG PB PF : List (List Ins)}
theorem t_Mo_match (hC : RC s lv T nc nd nt PT PG PB PF) (x : Int32) : ab_T g_Mo_match (d + 6) (0, 0) [.ref 81, .int x] (HA fm X s t) (PR w4 (if x = -1 then mtG (vR T nc nd (s 114)) PT nc nd 0 0 else if inR nd x then (mtS (mtG (vR T nc nd (s 114)) PT nc nd) (cfS (vR T nc nd (s 114)) PT nc nd) (x.toNatClampNeg + 1)).2 else -1) fm X s t) := by
  have h5 := hC.1.2.2.1.2
  have h6 := hC.1.2.2.2.1.2
  have hlv := hC.1.2.1
  obtain ⟨V, hV⟩ : ∃ V, V = vR T nc nd (s 114) := ⟨_, rfl⟩
  rw [← hV]
  obtain ⟨p, hp⟩ : ∃ p, p = openB V := ⟨_, rfl⟩
  generalize hPo : PR w4 (if x = -1 then mtG V PT nc nd 0 0 else if inR nd x then (mtS (mtG V PT nc nd) (cfS V PT nc nd) (x.toNatClampNeg + 1)).2 else -1) fm X s t = Po
  have fin : ∀ r s', Kr w4 s s' → r = (if x = -1 then mtG V PT nc nd 0 0 else if inR nd x then (mtS (mtG V PT nc nd) (cfS V PT nc nd) (x.toNatClampNeg + 1)).2 else -1) → Po (some (.int r)) (HA fm X s' t) := by
    intro r s' hk hr
    rw [← hPo]
    exact ⟨by rw [hr], s', rfl, hk⟩
  have main : (x = -1 ∨ inR nd x) → ab_Z m_Mo_match (d + 6) (0, 0) Po 9 [some (.ref 81), some (.int x), none, none, none, none] [] (HA fm X s t) := by
    intro hx
    refine ab_go ok_Mo_match 1 rfl ?_
    show ab_Z m_Mo_match _ _ _ 10 [_, _, _, _, _, _] [_] _
    refine ab_cl ok_Mo_match rfl [_] [] rfl ⟨_, _, rfl, rfl, Or.inl ⟨_, _, rfl, rfl⟩⟩ (Nat.le_of_ble_eq_true rfl) (t_Mo_fillsMatch d fm X s T t hC) ?_
    rintro _ _ ⟨rfl, s1, rfl, k1, o1, hv1, hm⟩
    show ab_Z m_Mo_match _ _ _ 11 [_, _, _, _, _, _] [] _
    rw [← hV] at hv1 o1 hm
    rw [← hp] at o1 hm
    have hC1 := hC.k k1
    refine ab_go ok_Mo_match 2 rfl ?_
    show ab_Z m_Mo_match _ _ _ 13 [_, _, _, _, _, _] [_, _] _
    refine ab_br ok_Mo_match rfl rfl ?_ ?_
    · intro h1
      show ab_Z m_Mo_match _ _ _ 14 [_, _, _, _, _, _] [] _
      refine ab_go ok_Mo_match 3 rfl ?_
      show ab_Z m_Mo_match _ _ _ 17 [_, _, _, _, _, _] [_, _] _
      refine ab_go ok_Mo_match 1 rfl ?_
      show ab_Z m_Mo_match _ _ _ 18 [_, _, _, _, _, _] [_] _
      exact ab_rI ok_Mo_match rfl (fin _ s1 k1 (by rw [if_pos h1]; exact hm 0 0 (by omega) (by decide)))
    · intro h1
      show ab_Z m_Mo_match _ _ _ 19 [_, _, _, _, _, _] [] _
      have hxr : inR nd x := hx.resolve_left h1
      rw [if_neg h1, if_pos hxr] at fin
      obtain ⟨w, hw, rfl⟩ := inR_nat hxr
      rw [nI_c (by omega)] at fin
      clear hPo hx
      obtain ⟨g, hg⟩ : ∃ g, g = mtG V PT nc nd := ⟨_, rfl⟩
      obtain ⟨cf, hcf⟩ : ∃ cf, cf = cfS V PT nc nd := ⟨_, rfl⟩
      rw [← hg, ← hcf] at fin
      rw [← hg] at hm
      have hcl : ∀ e, p e = false → cf e = 0 := fun e h => by rw [hcf]; exact cfS_cl (by rw [← hp]; exact h)
      refine ab_go ok_Mo_match 4 rfl ?_
      show ab_Z m_Mo_match _ _ _ 23 [_, _, _, _, _, _] [] _
      refine lp_dn (cntN p nd) (fun k => ∀ e s2, e ≤ nd → cntN p e = k → (p w = true → e ≤ w) → Kr w2 s1 s2 → ab_Z m_Mo_match (d + 6) (0, 0) Po 23 [some (.ref 81), some (.int (nI w)), some (.int (nI (mtS g cf e).1)), some (.int (nI k)), none, none] [] (HA fm X s2 t)) ?_ ?_ 0 s1 (by omega) rfl (fun _ => by omega) (Kr.rf w2 s1)
      · intro e s2 he hc hpw k2
        refine ab_go ok_Mo_match 3 rfl ?_
        show ab_Z m_Mo_match _ _ _ 26 [_, _, _, _, _, _] [_, _] _
        rw [show s2 81 59 = nI (cntN p nd) from by rw [k2 81 59 rfl]; exact o1.1]
        refine ab_br ok_Mo_match rfl rfl ?_ ?_
        · intro h2
          show ab_Z m_Mo_match _ _ _ 82 [_, _, _, _, _, _] [] _
          refine ab_go ok_Mo_match 1 rfl ?_
          show ab_Z m_Mo_match _ _ _ 83 [_, _, _, _, _, _] [_] _
          have hpf : p w = false := by
            cases hpx : p w
            · rfl
            · have := cnt_lt hpx hw
              have := cnt_mono p (hpw hpx)
              omega
          exact ab_rI ok_Mo_match rfl (fin _ s2 (k1.tr k2.m24) (by rw [mtS_cl (hcl w hpf)]))
        · intro h2
          show ab_Z m_Mo_match _ _ _ 27 [_, _, _, _, _, _] [] _
          exact absurd (lp_out _) h2
      · intro k hk ih e s2 he hc hpw k2
        have hcle := cnt_le p nd
        obtain ⟨e0, he0, hp0, hc0⟩ := cnt_at p hk
        have hee : e ≤ e0 := by
          rcases Nat.lt_or_ge e0 e with h | h
          · have := cnt_lt hp0 h; omega
          · exact h
        have hsk : ∀ j, e ≤ j → j < e0 → p j = false := cnt_eq_no (hc.trans hc0.symm)
        rw [← mtS_sk (g := g) (cf := cf) hee (fun j a b => hcl j (hsk j a b))]
        have hu := mtS_lt g cf e0
        obtain ⟨u, hue⟩ : ∃ u, u = (mtS g cf e0).1 := ⟨_, rfl⟩
        obtain ⟨r, hr⟩ : ∃ r, r = fstV (lowB g cf e0 u) 0 5 := ⟨_, rfl⟩
        have hms : mtS g cf (e0 + 1) = (if r = -2 then u else u ||| 2 ^ r.toNatClampNeg, r) := by
          rw [mtS, ← hue, ← hr]
        rw [← hue] at hu ⊢
        have hpw0 : p w = true → e0 ≤ w := fun z => by
          rcases Nat.lt_or_ge w e0 with h | h
          · have := hsk w (hpw z) h
            rw [z] at this; cases this
          · exact h
        have h120 : ∀ s3, Kr w2 s1 s3 → s3 120 k = nI e0 := fun s3 k3 => by
          rw [k3 120 _ rfl, ← hc0]
          exact o1.2 e0 he0 hp0
        have hgk : ∀ s3, Kr w2 s1 s3 → s3 122 (32 * k + u) = g e0 u := fun s3 k3 => by
          rw [k3 122 _ rfl, ← hc0]
          exact hm e0 u (by omega) hu
        have hgs : ∀ s3 v, Kr w2 s1 s3 → v < 32 → s3 122 (32 * (k + 1) + v) = g (e0 + 1) v := fun s3 v k3 hv => by
          rw [k3 122 _ rfl, ← hm (e0 + 1) v (by omega) hv, cntN, hp0, hc0]
          rfl
        have next : ∀ s3 l5, Kr w2 s1 s3 → ab_Z m_Mo_match (d + 6) (0, 0) Po 64 [some (.ref 81), some (.int (nI w)), some (.int (nI u)), some (.int (nI k)), some (.int r), l5] [] (HA fm X s3 t) := by
          intro s3 l5 k3
          refine ab_go ok_Mo_match 3 rfl ?_
          show ab_Z m_Mo_match _ _ _ 67 [_, _, _, _, _, _] [_, _] _
          refine ab_ia ok_Mo_match rfl rfl (k := k) (by first | rfl | (simp only [LL1, LL2, LL3, LL4, LL5, LL6, LL7, LL8, LL10, LL15, LL18, LL20, LL21, LL22, LL23, LL24, LL32, LL39, LL40, LL130, LL420, pk_mul, nI_add]; done) | (simp only [LL1, LL2, LL3, LL4, LL5, LL6, LL7, LL8, LL10, LL15, LL18, LL20, LL21, LL22, LL23, LL24, LL32, LL39, LL40, LL130, LL420, pk_mul, nI_add]; congr 1; omega)) (by omega) (Nat.le_of_ble_eq_true rfl) ?_
          show ab_Z m_Mo_match _ _ _ 68 [_, _, _, _, _, _] [_] _
          rw [h120 s3 k3]
          refine ab_go ok_Mo_match 1 rfl ?_
          show ab_Z m_Mo_match _ _ _ 69 [_, _, _, _, _, _] [_, _] _
          refine ab_br ok_Mo_match rfl rfl ?_ ?_
          · intro h3
            show ab_Z m_Mo_match _ _ _ 70 [_, _, _, _, _, _] [] _
            refine ab_go ok_Mo_match 1 rfl ?_
            show ab_Z m_Mo_match _ _ _ 71 [_, _, _, _, _, _] [_] _
            have hwe : e0 = w := (nI_eq (by omega) (by omega)).mp h3
            exact ab_rI ok_Mo_match rfl (fin _ s3 (k1.tr k3.m24) (by rw [← hwe, hms]))
          · intro h3
            show ab_Z m_Mo_match _ _ _ 72 [_, _, _, _, _, _] [] _
            have hne : e0 ≠ w := fun z => h3 (by rw [z])
            have ih2 := ih (e0 + 1) s3 (by omega) (by rw [cntN, hp0, hc0]; rfl) (fun z => by have := hpw0 z; omega) k3
            rw [hms, nI_succ k] at ih2
            refine ab_go ok_Mo_match 1 rfl ?_
            show ab_Z m_Mo_match _ _ _ 73 [_, _, _, _, _, _] [_] _
            refine ab_br ok_Mo_match rfl rfl ?_ ?_
            · intro h4
              show ab_Z m_Mo_match _ _ _ 80 [_, _, _, _, _, _] [] _
              rcases fstV_or (lowB g cf e0 u) 5 0 (by decide) with h | ⟨j, hj1, hj2, hj3⟩
              · rw [← hr] at h
                refine ab_go ok_Mo_match 2 rfl ?_
                show ab_Z m_Mo_match _ _ _ 23 [_, _, _, _, _, _] [] _
                rw [if_pos h] at ih2
                exact ih2
              · rw [← hr] at hj3
                rw [hj3] at h4
                exact absurd h4 (nI_l0 (by omega))
            · intro h4
              show ab_Z m_Mo_match _ _ _ 74 [_, _, _, _, _, _] [] _
              rcases fstV_or (lowB g cf e0 u) 5 0 (by decide) with h | ⟨j, hj1, hj2, hj3⟩
              · rw [← hr] at h
                rw [h] at h4
                exact absurd (by decide) h4
              · rw [← hr] at hj3
                rw [hj3, if_neg (nI_ne2 (by omega)), nI_c (by omega), ← nI_or, ← nI_shl j (by omega)] at ih2
                rw [hj3]
                refine ab_go ok_Mo_match 8 rfl ?_
                show ab_Z m_Mo_match _ _ _ 23 [_, _, _, _, _, _] [] _
                exact ih2
        refine ab_go ok_Mo_match 3 rfl ?_
        show ab_Z m_Mo_match _ _ _ 26 [_, _, _, _, _, _] [_, _] _
        rw [show s2 81 59 = nI (cntN p nd) from by rw [k2 81 59 rfl]; exact o1.1]
        refine ab_br ok_Mo_match rfl rfl ?_ ?_
        · intro h2
          show ab_Z m_Mo_match _ _ _ 82 [_, _, _, _, _, _] [] _
          exact absurd h2 (lp_in (by omega) hk)
        · intro h2
          show ab_Z m_Mo_match _ _ _ 27 [_, _, _, _, _, _] [] _
          refine ab_go ok_Mo_match 4 rfl ?_
          show ab_Z m_Mo_match _ _ _ 31 [_, _, _, _, _, _] [] _
          refine lp_dn nc (fun c => ∀ s3, Kr w2 s1 s3 → fstV (lowB g cf e0 u) c (5 - c) = r → ab_Z m_Mo_match (d + 6) (0, 0) Po 31 [some (.ref 81), some (.int (nI w)), some (.int (nI u)), some (.int (nI k)), some (.int (-2)), some (.int (nI c))] [] (HA fm X s3 t)) ?_ ?_ s2 k2 hr.symm
          · intro s3 k3 hf
            have hC3 := hC1.k k3.m24
            have hr2 : r = -2 := by
              rw [← hf]
              refine fst_no _ _ _ (fun j a b => ?_)
              unfold lowB
              rw [hcf, cfS_tb, decide_eq_false (show ¬ j < nc by omega)]
              rfl
            refine ab_go ok_Mo_match 5 rfl ?_
            show ab_Z m_Mo_match _ _ _ 36 [_, _, _, _, _, _] [_, _, _] _
            rw [hC3.1.1]
            refine ab_ia ok_Mo_match rfl rfl (k := lv) (by first | rfl | (simp only [LL1, LL2, LL3, LL4, LL5, LL6, LL7, LL8, LL10, LL15, LL18, LL20, LL21, LL22, LL23, LL24, LL32, LL39, LL40, LL130, LL420, pk_mul, nI_add]; done) | (simp only [LL1, LL2, LL3, LL4, LL5, LL6, LL7, LL8, LL10, LL15, LL18, LL20, LL21, LL22, LL23, LL24, LL32, LL39, LL40, LL130, LL420, pk_mul, nI_add]; congr 1; omega)) (by omega) (Nat.le_of_ble_eq_true rfl) ?_
            show ab_Z m_Mo_match _ _ _ 37 [_, _, _, _, _, _] [_, _] _
            rw [hC3.1.2.2.1.1]
            refine ab_br ok_Mo_match rfl rfl ?_ ?_
            · intro h3
              show ab_Z m_Mo_match _ _ _ 64 [_, _, _, _, _, _] [] _
              rw [← hr2]
              exact next s3 _ k3
            · intro h3
              show ab_Z m_Mo_match _ _ _ 38 [_, _, _, _, _, _] [] _
              exact absurd (lp_out nc) h3
          · intro c hc' ihc s3 k3 hf
            have hC3 := hC1.k k3.m24
            rw [show 5 - c = 5 - (c + 1) + 1 by omega, fstV] at hf
            refine ab_go ok_Mo_match 5 rfl ?_
            show ab_Z m_Mo_match _ _ _ 36 [_, _, _, _, _, _] [_, _, _] _
            rw [hC3.1.1]
            refine ab_ia ok_Mo_match rfl rfl (k := lv) (by first | rfl | (simp only [LL1, LL2, LL3, LL4, LL5, LL6, LL7, LL8, LL10, LL15, LL18, LL20, LL21, LL22, LL23, LL24, LL32, LL39, LL40, LL130, LL420, pk_mul, nI_add]; done) | (simp only [LL1, LL2, LL3, LL4, LL5, LL6, LL7, LL8, LL10, LL15, LL18, LL20, LL21, LL22, LL23, LL24, LL32, LL39, LL40, LL130, LL420, pk_mul, nI_add]; congr 1; omega)) (by omega) (Nat.le_of_ble_eq_true rfl) ?_
            show ab_Z m_Mo_match _ _ _ 37 [_, _, _, _, _, _] [_, _] _
            rw [hC3.1.2.2.1.1]
            refine ab_br ok_Mo_match rfl rfl ?_ ?_
            · intro h3
              show ab_Z m_Mo_match _ _ _ 64 [_, _, _, _, _, _] [] _
              exact absurd h3 (lp_in (by omega) hc')
            · intro h3
              show ab_Z m_Mo_match _ _ _ 38 [_, _, _, _, _, _] [] _
              refine ab_go ok_Mo_match 1 rfl ?_
              show ab_Z m_Mo_match _ _ _ 39 [_, _, _, _, _, _] [_] _
              refine ab_go ok_Mo_match 1 rfl ?_
              show ab_Z m_Mo_match _ _ _ 40 [_, _, _, _, _, _] [] _
              refine ab_go ok_Mo_match 4 rfl ?_
              show ab_Z m_Mo_match _ _ _ 44 [_, _, _, _, _, _] [_, _, _, _] _
              refine ab_cl ok_Mo_match rfl [_, _, _, _] [] rfl ⟨_, _, rfl, rfl, Or.inl ⟨_, _, rfl, rfl⟩⟩ (Nat.le_of_ble_eq_true rfl) (t_Mo_mayHave (d + 1) fm X s3 T t hC3 hc' (show k < 6 by omega) (h120 s3 k3) he0 hu) ?_
              rintro _ _ ⟨rfl, s4, rfl, k4⟩
              show ab_Z m_Mo_match _ _ _ 45 [_, _, _, _, _, _] [_] _
              rw [show vR T nc nd (s3 115) = V from by rw [k3.row (c := 115) (fun _ => rfl)]; exact hv1]
              have k14 := k3.tr k4
              have htb : (cf e0).testBit c = canB V PT nd c e0 := by rw [hcf, cfS_tb, decide_eq_true hc', Bool.true_and]
              have ihd : lowB g cf e0 u c = false → ab_Z m_Mo_match (d + 6) (0, 0) Po 62 [some (.ref 81), some (.int (nI w)), some (.int (nI u)), some (.int (nI k)), some (.int (-2)), some (.int (nI c))] [] (HA fm X s4 t) := by
                intro hl
                have ih3 := ihc s4 k14 (by rw [if_neg (by rw [hl]; decide)] at hf; exact hf)
                rw [nI_succ c] at ih3
                refine ab_go ok_Mo_match 2 rfl ?_
                show ab_Z m_Mo_match _ _ _ 31 [_, _, _, _, _, _] [] _
                exact ih3
              refine ab_br ok_Mo_match rfl rfl ?_ ?_
              · intro h4
                show ab_Z m_Mo_match _ _ _ 62 [_, _, _, _, _, _] [] _
                refine ihd ?_
                have hb := bB_0.mp h4
                unfold lowB
                rw [htb, Bool.and_comm (canB V PT nd c e0), hb]
                rfl
              · intro h4
                show ab_Z m_Mo_match _ _ _ 46 [_, _, _, _, _, _] [] _
                have hb := bB_n0 h4
                refine ab_go ok_Mo_match 4 rfl ?_
                show ab_Z m_Mo_match _ _ _ 50 [_, _, _, _, _, _] [_, _, _, _] _
                refine ab_cl ok_Mo_match rfl [_, _, _, _] [] rfl ⟨_, _, rfl, rfl, Or.inl ⟨_, _, rfl, rfl⟩⟩ (Nat.le_of_ble_eq_true rfl) (t_Mo_matchWith (d + 5) fm X s4 t (show c < 5 by omega) (show k < 6 by omega) hu) ?_
                rintro _ _ ⟨rfl, rfl⟩
                show ab_Z m_Mo_match _ _ _ 51 [_, _, _, _, _, _] [_] _
                rw [hgs s4 _ k14 (or_lt32 hu (by omega))]
                refine ab_go ok_Mo_match 7 rfl ?_
                show ab_Z m_Mo_match _ _ _ 58 [_, _, _, _, _, _] [_, _, _] _
                refine ab_ia ok_Mo_match rfl rfl (k := (32 * k + u)) (by first | rfl | (simp only [LL1, LL2, LL3, LL4, LL5, LL6, LL7, LL8, LL10, LL15, LL18, LL20, LL21, LL22, LL23, LL24, LL32, LL39, LL40, LL130, LL420, pk_mul, nI_add]; done) | (simp only [LL1, LL2, LL3, LL4, LL5, LL6, LL7, LL8, LL10, LL15, LL18, LL20, LL21, LL22, LL23, LL24, LL32, LL39, LL40, LL130, LL420, pk_mul, nI_add]; congr 1; omega)) (by omega) (Nat.le_of_ble_eq_true rfl) ?_
                show ab_Z m_Mo_match _ _ _ 59 [_, _, _, _, _, _] [_, _] _
                rw [hgk s4 k14]
                have hlb : lowB g cf e0 u c = decide (1 + g (e0 + 1) (u ||| 2 ^ c) = g e0 u) := by
                  unfold lowB
                  rw [htb, Bool.and_comm (canB V PT nd c e0), hb, Bool.true_and]
                refine ab_br ok_Mo_match rfl rfl ?_ ?_
                · intro h7
                  show ab_Z m_Mo_match _ _ _ 60 [_, _, _, _, _, _] [] _
                  rw [decide_eq_true h7] at hlb
                  rw [hlb, if_pos rfl] at hf
                  refine ab_go ok_Mo_match 4 rfl ?_
                  show ab_Z m_Mo_match _ _ _ 31 [_, _, _, _, _, _] [] _
                  rw [hf]
                  have hC4 := hC1.k k14.m24
                  have hge : (0 : Int32) ≤ r := by rw [← hf]; exact Int32.le_iff_toInt_le.mpr (by rw [nI_t (by omega)]; show (0 : Int) ≤ _; omega)
                  refine ab_go ok_Mo_match 5 rfl ?_
                  show ab_Z m_Mo_match _ _ _ 36 [_, _, _, _, _, _] [_, _, _] _
                  rw [hC4.1.1]
                  refine ab_ia ok_Mo_match rfl rfl (k := lv) (by first | rfl | (simp only [LL1, LL2, LL3, LL4, LL5, LL6, LL7, LL8, LL10, LL15, LL18, LL20, LL21, LL22, LL23, LL24, LL32, LL39, LL40, LL130, LL420, pk_mul, nI_add]; done) | (simp only [LL1, LL2, LL3, LL4, LL5, LL6, LL7, LL8, LL10, LL15, LL18, LL20, LL21, LL22, LL23, LL24, LL32, LL39, LL40, LL130, LL420, pk_mul, nI_add]; congr 1; omega)) (by omega) (Nat.le_of_ble_eq_true rfl) ?_
                  show ab_Z m_Mo_match _ _ _ 37 [_, _, _, _, _, _] [_, _] _
                  rw [hC4.1.2.2.1.1]
                  refine ab_br ok_Mo_match rfl rfl ?_ ?_
                  · intro h8
                    show ab_Z m_Mo_match _ _ _ 64 [_, _, _, _, _, _] [] _
                    exact next s4 _ k14
                  · intro h8
                    show ab_Z m_Mo_match _ _ _ 38 [_, _, _, _, _, _] [] _
                    refine ab_go ok_Mo_match 1 rfl ?_
                    show ab_Z m_Mo_match _ _ _ 39 [_, _, _, _, _, _] [_] _
                    refine ab_br ok_Mo_match rfl rfl ?_ ?_
                    · intro h9
                      show ab_Z m_Mo_match _ _ _ 64 [_, _, _, _, _, _] [] _
                      exact next s4 _ k14
                    · intro h9
                      show ab_Z m_Mo_match _ _ _ 40 [_, _, _, _, _, _] [] _
                      exact absurd hge h9
                · intro h7
                  show ab_Z m_Mo_match _ _ _ 62 [_, _, _, _, _, _] [] _
                  exact ihd (by rw [hlb]; exact decide_eq_false h7)
  refine ab_T_of (M := m_Mo_match) rfl rfl (Nat.le_of_ble_eq_true rfl) ?_
  show ab_Z m_Mo_match _ _ _ 0 [_, _, _, _, _, _] [] _
  refine ab_go ok_Mo_match 2 rfl ?_
  show ab_Z m_Mo_match _ _ _ 2 [_, _, _, _, _, _] [_, _] _
  refine ab_br ok_Mo_match rfl rfl ?_ ?_
  · intro h1
    show ab_Z m_Mo_match _ _ _ 9 [_, _, _, _, _, _] [] _
    exact main (Or.inl h1)
  · intro h1
    show ab_Z m_Mo_match _ _ _ 3 [_, _, _, _, _, _] [] _
    refine ab_go ok_Mo_match 2 rfl ?_
    show ab_Z m_Mo_match _ _ _ 5 [_, _, _, _, _, _] [_, _] _
    refine ab_cl ok_Mo_match rfl [_, _] [] rfl ⟨_, _, rfl, rfl, Or.inl ⟨_, _, rfl, rfl⟩⟩ (Nat.le_of_ble_eq_true rfl) (t_Mo_isDeed (d + 4) fm X s T t hC.1 x) ?_
    rintro _ _ ⟨rfl, rfl⟩
    show ab_Z m_Mo_match _ _ _ 6 [_, _, _, _, _, _] [_] _
    refine ab_br ok_Mo_match rfl rfl ?_ ?_
    · intro h2
      show ab_Z m_Mo_match _ _ _ 7 [_, _, _, _, _, _] [] _
      refine ab_go ok_Mo_match 1 rfl ?_
      show ab_Z m_Mo_match _ _ _ 8 [_, _, _, _, _, _] [_] _
      exact ab_rI ok_Mo_match rfl (fin _ s (Kr.rf w4 s) (by rw [if_neg h1, if_neg (bI_0.mp h2)]))
    · intro h2
      show ab_Z m_Mo_match _ _ _ 9 [_, _, _, _, _, _] [] _
      exact main (Or.inr (bI_n0 h2))
end

