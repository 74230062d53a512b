/-! the reference's face: counts -/
/-- numbers of a row that serve nobody are 0 -/
def ZI (r : Nat → Int32) (nc nd : Nat) : Prop := ∀ j, Ir nc nd j → r j = 0
theorem sumV_0 {f : Nat → Int32} {n : Nat} : ∀ {k : Nat}, (∀ j, n ≤ j → j < n + k → f j = 0) → sumV f (n + k) = sumV f n
  | 0, _ => rfl
  | k + 1, h => by rw [← Nat.add_assoc, sumV, h (n + k) (by omega) (by omega), Int32.add_zero, sumV_0 (fun j a b => h j a (by omega))]
theorem sumV_3 (g : Nat → Int32) : ∀ n, sumV (fun c => sumV (fun f => g (3 * c + f)) 3) n = sumV g (3 * n)
  | 0 => rfl
  | n + 1 => by
    rw [sumV, sumV_3 g n, show 3 * (n + 1) = 3 * n + 1 + 1 + 1 by omega, sumV, sumV, sumV]
    simp only [sumV]
    rw [Int32.zero_add, Nat.add_zero]
    simp only [Int32.add_assoc]
theorem allP_3 {V : Nat → Nat → Int32} : ∀ n, allP V n = sumV (fun j => V 11 (15 + j)) (3 * n)
  | 0 => rfl
  | n + 1 => by
    rw [allP, allP_3 n, show 3 * (n + 1) = 3 * n + 1 + 1 + 1 by omega, sumV, sumV, sumV]
    rfl
section
variable (d : Nat) (fm : Value) (X : Nat × (Nat → Int32)) (s T : Nat → Nat → Int32) (t : Nat → Nat → Int64)
variable {lv nc nd nt : Nat} {PT PG PB PF : List (List Ins)}
theorem t_Mo_year (hC : RC s lv T nc nd nt PT PG PB PF) (hT : T 14 11 = nI nc) (hQ : QI (vR T nc nd (s 114)) nc nd nt) (x y : Int32) : ab_T g_Mo_year (d + 3) (0, 0) [.ref 81, .int x, .int y] (HA fm X s t) (PR w4 (if inR nd x ∧ 1 ≤ y.toInt ∧ y.toInt ≤ 20 then (if vR T nc nd (s 114) 11 (33 + x.toNatClampNeg) < 0 then 0 else nI (cntN (fun i => decide (rdV (vR T nc nd (s 114)) x.toNatClampNeg (vR T nc nd (s 114) 14 15 + nI i) = vR T nc nd (s 114) 11 (33 + x.toNatClampNeg))) y.toNatClampNeg)) else -1) fm X s t) := by
  have h5 := hC.1.2.2.1.2
  have h6 := hC.1.2.2.2.1.2
  generalize hPo : PR w4 (if inR nd x ∧ 1 ≤ y.toInt ∧ y.toInt ≤ 20 then (if vR T nc nd (s 114) 11 (33 + x.toNatClampNeg) < 0 then 0 else nI (cntN (fun i => decide (rdV (vR T nc nd (s 114)) x.toNatClampNeg (vR T nc nd (s 114) 14 15 + nI i) = vR T nc nd (s 114) 11 (33 + x.toNatClampNeg))) y.toNatClampNeg)) else -1) fm X s t = Po
  have no : ¬ (inR nd x ∧ 1 ≤ y.toInt ∧ y.toInt ≤ 20) → ab_Z m_Mo_year (d + 3) (0, 0) Po 9 [some (.ref 81), some (.int x), some (.int y), none, none] [] (HA fm X s t) := by
    intro hn
    rw [if_neg hn] at hPo
    refine ab_go ok_Mo_year 1 rfl ?_
    show ab_Z m_Mo_year _ _ _ 10 [_, _, _, _, _] [_] _
    have fin : Po (some (.int (-1))) (HA fm X s t) := by
      rw [← hPo]
      exact ⟨rfl, s, rfl, Kr.rf w4 s⟩
    exact ab_rI ok_Mo_year rfl (fin)
  refine ab_T_of (M := m_Mo_year) rfl rfl (Nat.le_of_ble_eq_true rfl) ?_
  show ab_Z m_Mo_year _ _ _ 0 [_, _, _, _, _] [] _
  refine ab_go ok_Mo_year 2 rfl ?_
  show ab_Z m_Mo_year _ _ _ 2 [_, _, _, _, _] [_, _] _
  refine ab_cl ok_Mo_year rfl [_, _] [] rfl ⟨_, _, rfl, rfl, Or.inl ⟨_, _, rfl, rfl⟩⟩ (Nat.le_of_ble_eq_true rfl) (t_Mo_isDeed (d + 1) fm X s T t hC.1 x) ?_
  rintro _ _ ⟨rfl, rfl⟩
  show ab_Z m_Mo_year _ _ _ 3 [_, _, _, _, _] [_] _
  refine ab_br ok_Mo_year rfl rfl ?_ ?_
  · intro h1
    show ab_Z m_Mo_year _ _ _ 9 [_, _, _, _, _] [] _
    exact no (fun q => bI_0.mp h1 q.1)
  · intro h1
    show ab_Z m_Mo_year _ _ _ 4 [_, _, _, _, _] [] _
    refine ab_go ok_Mo_year 3 rfl ?_
    show ab_Z m_Mo_year _ _ _ 7 [_, _, _, _, _] [_, _, _] _
    refine ab_cl ok_Mo_year rfl [_, _, _] [] rfl rfl (Nat.le_of_ble_eq_true rfl) (t_Mo_in (d + 2) _ y 1 20) ?_
    rintro _ _ ⟨rfl, rfl⟩
    show ab_Z m_Mo_year _ _ _ 8 [_, _, _, _, _] [_] _
    refine ab_br ok_Mo_year rfl rfl ?_ ?_
    · intro h2
      show ab_Z m_Mo_year _ _ _ 9 [_, _, _, _, _] [] _
      exact no (fun q => bI_0.mp h2 q.2)
    · intro h2
      show ab_Z m_Mo_year _ _ _ 11 [_, _, _, _, _] [] _
      have hy : 1 ≤ y.toInt ∧ y.toInt ≤ 20 := bI_n0 h2
      rw [if_pos ⟨bI_n0 h1, hy⟩] at hPo
      obtain ⟨e, he, rfl⟩ := inR_nat (bI_n0 h1)
      obtain ⟨m, hm, rfl⟩ : ∃ m, m ≤ 20 ∧ y = nI m := ⟨y.toNatClampNeg, by have := (ab_nn (show 0 ≤ y.toInt by omega)).2; omega, i_nat (by omega)⟩
      rw [nI_c (by omega), nI_c (by omega)] at hPo
      refine ab_go ok_Mo_year 1 rfl ?_
      show ab_Z m_Mo_year _ _ _ 12 [_, _, _, _, _] [_] _
      refine ab_cl ok_Mo_year rfl [_] [] rfl ⟨_, _, rfl, rfl, Or.inl ⟨_, _, rfl, rfl⟩⟩ (Nat.le_of_ble_eq_true rfl) (t_Mo_copies' (d + 2) fm X s T t hC) ?_
      rintro _ _ ⟨rfl, s1, rfl, k1, hC1, hv1, hl1, h40⟩
      show ab_Z m_Mo_year _ _ _ 13 [_, _, _, _, _] [] _
      rw [← hv1] at hQ hPo
      rw [vR_s h5 h6 he] at hPo
      refine ab_go ok_Mo_year 5 rfl ?_
      show ab_Z m_Mo_year _ _ _ 18 [_, _, _, _, _] [_, _] _
      refine ab_ia ok_Mo_year rfl rfl (k := (15 + e)) (by first | rfl | (simp only [LL1, LL2, LL3, LL4, LL5, LL6, LL7, LL8, LL10, LL15, LL18, LL20, LL21, LL22, LL23, LL24, LL32, LL39, LL40, LL130, LL420, pk_mul, nI_add]; done) | (simp only [LL1, LL2, LL3, LL4, LL5, LL6, LL7, LL8, LL10, LL15, LL18, LL20, LL21, LL22, LL23, LL24, LL32, LL39, LL40, LL130, LL420, pk_mul, nI_add]; congr 1; omega)) (by omega) (Nat.le_of_ble_eq_true rfl) ?_
      show ab_Z m_Mo_year _ _ _ 19 [_, _, _, _, _] [_] _
      refine ab_br ok_Mo_year rfl rfl ?_ ?_
      · intro h3
        show ab_Z m_Mo_year _ _ _ 22 [_, _, _, _, _] [] _
        have hn : ¬ s1 115 (15 + e) < 0 := fun z => by have := i_lt z; have := i_le h3; omega
        rw [if_neg hn] at hPo
        refine ab_go ok_Mo_year 4 rfl ?_
        show ab_Z m_Mo_year _ _ _ 26 [_, _, _, _, _] [] _
        obtain ⟨p, hp⟩ : ∃ p : Nat → Bool, p = fun i => decide (rdV (vR T nc nd (s1 115)) e (T 14 15 + nI i) = s1 115 (15 + e)) := ⟨_, rfl⟩
        have hPo' : PR w4 (nI (cntN p m)) fm X s t = Po := by rw [hp]; exact hPo
        have := lp_dn m (fun i => ab_Z m_Mo_year (d + 3) (0, 0) Po 26 [some (.ref 81), some (.int (nI e)), some (.int (nI m)), some (.int (nI (cntN p i))), some (.int (nI i))] [] (HA fm X (ab_up s1 81 52 (T 14 15 + nI i)) t)) ?_ ?_
        · rw [nI_0, Int32.add_zero, ← hl1] at this
          rw [show ab_up s1 81 52 (s1 81 52) = s1 from by
            funext a b
            by_cases ha : a = 81
            · subst ha
              by_cases hb : b = 52
              · subst hb; rw [ab_up_s]
              · rw [ab_up_n hb]
            · rw [ab_up_o ha]] at this
          exact this
        · refine ab_go ok_Mo_year 2 rfl ?_
          show ab_Z m_Mo_year _ _ _ 28 [_, _, _, _, _] [_, _] _
          refine ab_br ok_Mo_year rfl rfl ?_ ?_
          · intro h4
            show ab_Z m_Mo_year _ _ _ 48 [_, _, _, _, _] [] _
            refine ab_go ok_Mo_year 1 rfl ?_
            show ab_Z m_Mo_year _ _ _ 49 [_, _, _, _, _] [_] _
            have fin : Po (some (.int (nI (cntN p m)))) (HA fm X (ab_up s1 81 52 (T 14 15 + nI m)) t) := by
              rw [← hPo']
              exact ⟨rfl, _, rfl, Kr.up rfl k1.m34⟩
            exact ab_rI ok_Mo_year rfl (fin)
          · intro h4
            show ab_Z m_Mo_year _ _ _ 29 [_, _, _, _, _] [] _
            exact absurd (lp_out m) h4
        · intro i hi ih
          have hk2 : Kr w4 s1 (ab_up s1 81 52 (T 14 15 + nI i)) := Kr.up rfl (Kr.rf w4 s1)
          refine ab_go ok_Mo_year 2 rfl ?_
          show ab_Z m_Mo_year _ _ _ 28 [_, _, _, _, _] [_, _] _
          refine ab_br ok_Mo_year rfl rfl ?_ ?_
          · intro h4
            show ab_Z m_Mo_year _ _ _ 48 [_, _, _, _, _] [] _
            exact absurd h4 (lp_in (by omega) hi)
          · intro h4
            show ab_Z m_Mo_year _ _ _ 29 [_, _, _, _, _] [] _
            refine ab_go ok_Mo_year 2 rfl ?_
            show ab_Z m_Mo_year _ _ _ 31 [_, _, _, _, _] [_, _] _
            refine ab_cl ok_Mo_year rfl [_, _] [] rfl ⟨_, _, rfl, rfl, Or.inl ⟨_, _, rfl, rfl⟩⟩ (Nat.le_of_ble_eq_true rfl) (t_Mo_readsOf d fm X _ T t (hC1.k hk2) hT (by rw [show ab_up s1 81 52 (T 14 15 + nI i) 115 = s1 115 from rfl]; exact hQ.1) he hn) ?_
            rintro _ _ ⟨rfl, rfl⟩
            show ab_Z m_Mo_year _ _ _ 32 [_, _, _, _, _] [_] _
            rw [show ab_up s1 81 52 (T 14 15 + nI i) 115 = s1 115 from rfl, ab_up_s]
            refine ab_go ok_Mo_year 5 rfl ?_
            show ab_Z m_Mo_year _ _ _ 37 [_, _, _, _, _] [_, _, _] _
            refine ab_ia ok_Mo_year rfl rfl (k := (15 + e)) (by first | rfl | (simp only [LL1, LL2, LL3, LL4, LL5, LL6, LL7, LL8, LL10, LL15, LL18, LL20, LL21, LL22, LL23, LL24, LL32, LL39, LL40, LL130, LL420, pk_mul, nI_add]; done) | (simp only [LL1, LL2, LL3, LL4, LL5, LL6, LL7, LL8, LL10, LL15, LL18, LL20, LL21, LL22, LL23, LL24, LL32, LL39, LL40, LL130, LL420, pk_mul, nI_add]; congr 1; omega)) (by omega) (Nat.le_of_ble_eq_true rfl) ?_
            show ab_Z m_Mo_year _ _ _ 38 [_, _, _, _, _] [_, _] _
            rw [show ab_up s1 81 52 (T 14 15 + nI i) 115 (15 + e) = s1 115 (15 + e) from rfl]
            have hup : ab_up (ab_up s1 81 52 (T 14 15 + nI i)) 81 52 (T 14 15 + nI i + 1) = ab_up s1 81 52 (T 14 15 + (nI i + 1)) := by
              rw [Int32.add_assoc]
              funext a b
              by_cases ha : a = 81
              · subst ha
                by_cases hb : b = 52
                · subst hb; rw [ab_up_s, ab_up_s]
                · rw [ab_up_n hb, ab_up_n hb, ab_up_n hb]
              · rw [ab_up_o ha, ab_up_o ha, ab_up_o ha]
            refine ab_br ok_Mo_year rfl rfl ?_ ?_
            · intro h5'
              show ab_Z m_Mo_year _ _ _ 39 [_, _, _, _, _] [] _
              refine ab_go ok_Mo_year 9 rfl ?_
              show ab_Z m_Mo_year _ _ _ 26 [_, _, _, _, _] [] _
              rw [show ab_up s1 81 52 (T 14 15 + nI i) 81 52 = T 14 15 + nI i from ab_up_s .., hup]
              rw [cntN, show p i = true from by rw [hp]; exact decide_eq_true h5', nI_succ] at ih
              rw [if_pos rfl, nI_succ] at ih
              exact ih
            · intro h5'
              show ab_Z m_Mo_year _ _ _ 40 [_, _, _, _, _] [] _
              refine ab_go ok_Mo_year 8 rfl ?_
              show ab_Z m_Mo_year _ _ _ 26 [_, _, _, _, _] [] _
              rw [show ab_up s1 81 52 (T 14 15 + nI i) 81 52 = T 14 15 + nI i from ab_up_s .., hup]
              rw [cntN, show p i = false from by rw [hp]; exact decide_eq_false h5', nI_succ, if_neg (by decide), Nat.add_zero] at ih
              exact ih
      · intro h3
        show ab_Z m_Mo_year _ _ _ 20 [_, _, _, _, _] [] _
        have hn : s1 115 (15 + e) < 0 := Int32.lt_iff_toInt_lt.mpr (i_nle h3)
        rw [if_pos hn] at hPo
        refine ab_go ok_Mo_year 1 rfl ?_
        show ab_Z m_Mo_year _ _ _ 21 [_, _, _, _, _] [_] _
        have fin : Po (some (.int 0)) (HA fm X s1 t) := by
          rw [← hPo]
          exact ⟨rfl, s1, rfl, k1.m34⟩
        exact ab_rI ok_Mo_year rfl (fin)
theorem t_Mo_isOpen (hR : RT s lv T nc nd nt) (x : Int32) : ab_T g_Mo_isOpen (d + 2) (0, 0) [.ref 81, .int x] (HA fm X s t) (PI (bI (inR nd x ∧ openB (vR T nc nd (s 114)) x.toNatClampNeg = true)) (HA fm X s t)) := by
  have h5 := hR.2.2.1.2
  have h6 := hR.2.2.2.1.2
  refine ab_T_of (M := m_Mo_isOpen) rfl rfl (Nat.le_of_ble_eq_true rfl) ?_
  show ab_Z m_Mo_isOpen _ _ _ 0 [_, _] [] _
  refine ab_go ok_Mo_isOpen 2 rfl ?_
  show ab_Z m_Mo_isOpen _ _ _ 2 [_, _] [_, _] _
  refine ab_cl ok_Mo_isOpen rfl [_, _] [] rfl ⟨_, _, rfl, rfl, Or.inl ⟨_, _, rfl, rfl⟩⟩ (Nat.le_of_ble_eq_true rfl) (t_Mo_isDeed d fm X s T t hR x) ?_
  rintro _ _ ⟨rfl, rfl⟩
  show ab_Z m_Mo_isOpen _ _ _ 3 [_, _] [_] _
  refine ab_br ok_Mo_isOpen rfl rfl ?_ ?_
  · intro h1
    show ab_Z m_Mo_isOpen _ _ _ 14 [_, _] [] _
    refine ab_go ok_Mo_isOpen 1 rfl ?_
    show ab_Z m_Mo_isOpen _ _ _ 15 [_, _] [_] _
    exact ab_rZ ok_Mo_isOpen rfl (by decide) (⟨by rw [bI_f (fun z => bI_0.mp h1 z.1)], rfl⟩)
  · intro h1
    show ab_Z m_Mo_isOpen _ _ _ 4 [_, _] [] _
    have hx := bI_n0 h1
    obtain ⟨e, he, rfl⟩ := inR_nat hx
    rw [nI_c (by omega)]
    have ho : openB (vR T nc nd (s 114)) e = decide (s 114 (15 + e) = -2) := by unfold openB; rw [vR_s h5 h6 he]
    rw [ho]
    refine ab_go ok_Mo_isOpen 5 rfl ?_
    show ab_Z m_Mo_isOpen _ _ _ 9 [_, _] [_, _] _
    refine ab_ia ok_Mo_isOpen rfl rfl (k := (15 + e)) (by first | rfl | (simp only [LL1, LL2, LL3, LL4, LL5, LL6, LL7, LL8, LL10, LL15, LL18, LL20, LL21, LL22, LL23, LL24, LL32, LL39, LL40, LL130, LL420, pk_mul, nI_add]; done) | (simp only [LL1, LL2, LL3, LL4, LL5, LL6, LL7, LL8, LL10, LL15, LL18, LL20, LL21, LL22, LL23, LL24, LL32, LL39, LL40, LL130, LL420, pk_mul, nI_add]; congr 1; omega)) (by omega) (Nat.le_of_ble_eq_true rfl) ?_
    show ab_Z m_Mo_isOpen _ _ _ 10 [_, _] [_] _
    refine ab_go ok_Mo_isOpen 1 rfl ?_
    show ab_Z m_Mo_isOpen _ _ _ 11 [_, _] [_, _] _
    refine ab_br ok_Mo_isOpen rfl rfl ?_ ?_
    · intro h2
      show ab_Z m_Mo_isOpen _ _ _ 12 [_, _] [] _
      refine ab_go ok_Mo_isOpen 2 rfl ?_
      show ab_Z m_Mo_isOpen _ _ _ 15 [_, _] [_] _
      exact ab_rZ ok_Mo_isOpen rfl (by decide) (⟨by rw [bI_t ⟨hx, decide_eq_true h2⟩], rfl⟩)
    · intro h2
      show ab_Z m_Mo_isOpen _ _ _ 14 [_, _] [] _
      refine ab_go ok_Mo_isOpen 1 rfl ?_
      show ab_Z m_Mo_isOpen _ _ _ 15 [_, _] [_] _
      exact ab_rZ ok_Mo_isOpen rfl (by decide) (⟨by rw [bI_f (fun z => h2 (of_decide_eq_true z.2))], rfl⟩)
theorem t_Mo_lent (hC : RC s lv T nc nd nt PT PG PB PF) (x y : Int32) : ab_T g_Mo_lent (d + 2) (0, 0) [.ref 81, .int x, .int y] (HA fm X s t) (PR w4 (if inR nc x ∧ inR 3 y then lentV (vR T nc nd (s 114)) x.toNatClampNeg y.toNatClampNeg nd else -1) fm X s t) := by
  have hlv := hC.1.2.1
  have h5 := hC.1.2.2.1.2
  have h6 := hC.1.2.2.2.1.2
  generalize hPo : PR w4 (if inR nc x ∧ inR 3 y then lentV (vR T nc nd (s 114)) x.toNatClampNeg y.toNatClampNeg nd else -1) fm X s t = Po
  have no : ¬ (inR nc x ∧ inR 3 y) → ab_Z m_Mo_lent (d + 2) (0, 0) Po 7 [some (.ref 81), some (.int x), some (.int y), none, none] [] (HA fm X s t) := by
    intro hn
    rw [if_neg hn] at hPo
    refine ab_go ok_Mo_lent 1 rfl ?_
    show ab_Z m_Mo_lent _ _ _ 8 [_, _, _, _, _] [_] _
    have fin : Po (some (.int (-1))) (HA fm X s t) := by
      rw [← hPo]
      exact ⟨rfl, s, rfl, Kr.rf w4 s⟩
    exact ab_rI ok_Mo_lent rfl (fin)
  refine ab_T_of (M := m_Mo_lent) rfl rfl (Nat.le_of_ble_eq_true rfl) ?_
  show ab_Z m_Mo_lent _ _ _ 0 [_, _, _, _, _] [] _
  refine ab_go ok_Mo_lent 2 rfl ?_
  show ab_Z m_Mo_lent _ _ _ 2 [_, _, _, _, _] [_, _] _
  refine ab_cl ok_Mo_lent rfl [_, _] [] rfl ⟨_, _, rfl, rfl, Or.inl ⟨_, _, rfl, rfl⟩⟩ (Nat.le_of_ble_eq_true rfl) (t_Mo_isClerk d fm X s T t hC.1 x) ?_
  rintro _ _ ⟨rfl, rfl⟩
  show ab_Z m_Mo_lent _ _ _ 3 [_, _, _, _, _] [_] _
  refine ab_br ok_Mo_lent rfl rfl ?_ ?_
  · intro h1
    show ab_Z m_Mo_lent _ _ _ 7 [_, _, _, _, _] [] _
    exact no (fun q => bI_0.mp h1 q.1)
  · intro h1
    show ab_Z m_Mo_lent _ _ _ 4 [_, _, _, _, _] [] _
    refine ab_go ok_Mo_lent 1 rfl ?_
    show ab_Z m_Mo_lent _ _ _ 5 [_, _, _, _, _] [_] _
    refine ab_cl ok_Mo_lent rfl [_] [] rfl rfl (Nat.le_of_ble_eq_true rfl) (t_Mo_isFeature d _ y) ?_
    rintro _ _ ⟨rfl, rfl⟩
    show ab_Z m_Mo_lent _ _ _ 6 [_, _, _, _, _] [_] _
    refine ab_br ok_Mo_lent rfl rfl ?_ ?_
    · intro h2
      show ab_Z m_Mo_lent _ _ _ 7 [_, _, _, _, _] [] _
      exact no (fun q => bI_0.mp h2 q.2)
    · intro h2
      show ab_Z m_Mo_lent _ _ _ 9 [_, _, _, _, _] [] _
      rw [if_pos ⟨bI_n0 h1, bI_n0 h2⟩] at hPo
      obtain ⟨c, hc, rfl⟩ := inR_nat (bI_n0 h1)
      obtain ⟨f, hf, rfl⟩ := inR_nat (bI_n0 h2)
      rw [nI_c (by omega), nI_c (by omega)] at hPo
      refine ab_go ok_Mo_lent 4 rfl ?_
      show ab_Z m_Mo_lent _ _ _ 13 [_, _, _, _, _] [] _
      refine lp_dn nd (fun k => ab_Z m_Mo_lent (d + 2) (0, 0) Po 13 [some (.ref 81), some (.int (nI c)), some (.int (nI f)), some (.int (lentV (vR T nc nd (s 114)) c f k)), some (.int (nI k))] [] (HA fm X s t)) ?_ ?_
      · refine ab_go ok_Mo_lent 5 rfl ?_
        show ab_Z m_Mo_lent _ _ _ 18 [_, _, _, _, _] [_, _, _] _
        rw [hC.1.1]
        refine ab_ia ok_Mo_lent rfl rfl (k := lv) (by first | rfl | (simp only [LL1, LL2, LL3, LL4, LL5, LL6, LL7, LL8, LL10, LL15, LL18, LL20, LL21, LL22, LL23, LL24, LL32, LL39, LL40, LL130, LL420, pk_mul, nI_add]; done) | (simp only [LL1, LL2, LL3, LL4, LL5, LL6, LL7, LL8, LL10, LL15, LL18, LL20, LL21, LL22, LL23, LL24, LL32, LL39, LL40, LL130, LL420, pk_mul, nI_add]; congr 1; omega)) (by omega) (Nat.le_of_ble_eq_true rfl) ?_
        show ab_Z m_Mo_lent _ _ _ 19 [_, _, _, _, _] [_, _] _
        rw [hC.1.2.2.2.1.1]
        refine ab_br ok_Mo_lent rfl rfl ?_ ?_
        · intro h3
          show ab_Z m_Mo_lent _ _ _ 43 [_, _, _, _, _] [] _
          refine ab_go ok_Mo_lent 1 rfl ?_
          show ab_Z m_Mo_lent _ _ _ 44 [_, _, _, _, _] [_] _
          have fin : Po (some (.int (lentV (vR T nc nd (s 114)) c f nd))) (HA fm X s t) := by
            rw [← hPo]
            exact ⟨rfl, s, rfl, Kr.rf w4 s⟩
          exact ab_rI ok_Mo_lent rfl (fin)
        · intro h3
          show ab_Z m_Mo_lent _ _ _ 20 [_, _, _, _, _] [] _
          exact absurd (lp_out nd) h3
      · intro k hk ih
        rw [lentV, vR_s h5 h6 hk, vR_p h5 hk hf, nI_succ] at ih
        refine ab_go ok_Mo_lent 5 rfl ?_
        show ab_Z m_Mo_lent _ _ _ 18 [_, _, _, _, _] [_, _, _] _
        rw [hC.1.1]
        refine ab_ia ok_Mo_lent rfl rfl (k := lv) (by first | rfl | (simp only [LL1, LL2, LL3, LL4, LL5, LL6, LL7, LL8, LL10, LL15, LL18, LL20, LL21, LL22, LL23, LL24, LL32, LL39, LL40, LL130, LL420, pk_mul, nI_add]; done) | (simp only [LL1, LL2, LL3, LL4, LL5, LL6, LL7, LL8, LL10, LL15, LL18, LL20, LL21, LL22, LL23, LL24, LL32, LL39, LL40, LL130, LL420, pk_mul, nI_add]; congr 1; omega)) (by omega) (Nat.le_of_ble_eq_true rfl) ?_
        show ab_Z m_Mo_lent _ _ _ 19 [_, _, _, _, _] [_, _] _
        rw [hC.1.2.2.2.1.1]
        refine ab_br ok_Mo_lent rfl rfl ?_ ?_
        · intro h3
          show ab_Z m_Mo_lent _ _ _ 43 [_, _, _, _, _] [] _
          exact absurd h3 (lp_in (by omega) hk)
        · intro h3
          show ab_Z m_Mo_lent _ _ _ 20 [_, _, _, _, _] [] _
          refine ab_go ok_Mo_lent 5 rfl ?_
          show ab_Z m_Mo_lent _ _ _ 25 [_, _, _, _, _] [_, _] _
          refine ab_ia ok_Mo_lent rfl rfl (k := (15 + k)) (by first | rfl | (simp only [LL1, LL2, LL3, LL4, LL5, LL6, LL7, LL8, LL10, LL15, LL18, LL20, LL21, LL22, LL23, LL24, LL32, LL39, LL40, LL130, LL420, pk_mul, nI_add]; done) | (simp only [LL1, LL2, LL3, LL4, LL5, LL6, LL7, LL8, LL10, LL15, LL18, LL20, LL21, LL22, LL23, LL24, LL32, LL39, LL40, LL130, LL420, pk_mul, nI_add]; congr 1; omega)) (by omega) (Nat.le_of_ble_eq_true rfl) ?_
          show ab_Z m_Mo_lent _ _ _ 26 [_, _, _, _, _] [_] _
          refine ab_go ok_Mo_lent 1 rfl ?_
          show ab_Z m_Mo_lent _ _ _ 27 [_, _, _, _, _] [_, _] _
          refine ab_br ok_Mo_lent rfl rfl ?_ ?_
          · intro h4
            show ab_Z m_Mo_lent _ _ _ 28 [_, _, _, _, _] [] _
            refine ab_go ok_Mo_lent 10 rfl ?_
            show ab_Z m_Mo_lent _ _ _ 38 [_, _, _, _, _] [_, _, _] _
            refine ab_ia ok_Mo_lent rfl rfl (k := (21 + 3 * k + f)) (by first | rfl | (simp only [LL1, LL2, LL3, LL4, LL5, LL6, LL7, LL8, LL10, LL15, LL18, LL20, LL21, LL22, LL23, LL24, LL32, LL39, LL40, LL130, LL420, pk_mul, nI_add]; done) | (simp only [LL1, LL2, LL3, LL4, LL5, LL6, LL7, LL8, LL10, LL15, LL18, LL20, LL21, LL22, LL23, LL24, LL32, LL39, LL40, LL130, LL420, pk_mul, nI_add]; congr 1; omega)) (by omega) (Nat.le_of_ble_eq_true rfl) ?_
            show ab_Z m_Mo_lent _ _ _ 39 [_, _, _, _, _] [_, _] _
            refine ab_go ok_Mo_lent 4 rfl ?_
            show ab_Z m_Mo_lent _ _ _ 13 [_, _, _, _, _] [] _
            rw [if_pos h4] at ih
            exact ih
          · intro h4
            show ab_Z m_Mo_lent _ _ _ 41 [_, _, _, _, _] [] _
            refine ab_go ok_Mo_lent 2 rfl ?_
            show ab_Z m_Mo_lent _ _ _ 13 [_, _, _, _, _] [] _
            rw [if_neg h4] at ih
            exact ih
theorem t_Mo_apartOf (hC : RC s lv T nc nd nt PT PG PB PF) (hQ : QI (vR T nc nd (s 114)) nc nd nt) {a b : Nat} (ha : a < nd) (hb : b < nd) : ab_T g_Mo_apartOf (d + 1) (0, 0) [.ref 81, .int (nI a), .int (nI b)] (HA fm X s t) (PI (aptV (vR T nc nd (s 114)) a b) (HA fm X s t)) := by
  have h5 := hC.1.2.2.1.2
  have h6 := hC.1.2.2.2.1.2
  have hp := hQ.2.2.1
  unfold aptV
  generalize hg : (fun f => absF (vR T nc nd (s 114) 11 (15 + 3 * a + f) - vR T nc nd (s 114) 11 (15 + 3 * b + f))) = g
  refine ab_T_of (M := m_Mo_apartOf) rfl rfl (Nat.le_of_ble_eq_true rfl) ?_
  show ab_Z m_Mo_apartOf _ _ _ 0 [_, _, _, _, _] [] _
  refine ab_go ok_Mo_apartOf 4 rfl ?_
  show ab_Z m_Mo_apartOf _ _ _ 4 [_, _, _, _, _] [] _
  refine lp_dn 3 (fun k => ab_Z m_Mo_apartOf (d + 1) (0, 0) (PI (sumV g 3) (HA fm X s t)) 4 [some (.ref 81), some (.int (nI a)), some (.int (nI b)), some (.int (sumV g k)), some (.int (nI k))] [] (HA fm X s t)) ?_ ?_
  · refine ab_go ok_Mo_apartOf 2 rfl ?_
    show ab_Z m_Mo_apartOf _ _ _ 6 [_, _, _, _, _] [_, _] _
    refine ab_go ok_Mo_apartOf 1 rfl ?_
    show ab_Z m_Mo_apartOf _ _ _ 33 [_, _, _, _, _] [] _
    refine ab_go ok_Mo_apartOf 1 rfl ?_
    show ab_Z m_Mo_apartOf _ _ _ 34 [_, _, _, _, _] [_] _
    exact ab_rI ok_Mo_apartOf rfl (⟨rfl, rfl⟩)
  · intro k hk ih
    rw [sumV, nI_succ] at ih
    refine ab_go ok_Mo_apartOf 2 rfl ?_
    show ab_Z m_Mo_apartOf _ _ _ 6 [_, _, _, _, _] [_, _] _
    refine ab_br ok_Mo_apartOf rfl rfl ?_ ?_
    · intro h1
      show ab_Z m_Mo_apartOf _ _ _ 33 [_, _, _, _, _] [] _
      exact absurd h1 (lp_in (N := 3) (by decide) hk)
    · intro h1
      show ab_Z m_Mo_apartOf _ _ _ 7 [_, _, _, _, _] [] _
      refine ab_go ok_Mo_apartOf 10 rfl ?_
      show ab_Z m_Mo_apartOf _ _ _ 17 [_, _, _, _, _] [_, _, _] _
      refine ab_ia ok_Mo_apartOf rfl rfl (k := (21 + 3 * a + k)) (by first | rfl | (simp only [LL1, LL2, LL3, LL4, LL5, LL6, LL7, LL8, LL10, LL15, LL18, LL20, LL21, LL22, LL23, LL24, LL32, LL39, LL40, LL130, LL420, pk_mul, nI_add]; done) | (simp only [LL1, LL2, LL3, LL4, LL5, LL6, LL7, LL8, LL10, LL15, LL18, LL20, LL21, LL22, LL23, LL24, LL32, LL39, LL40, LL130, LL420, pk_mul, nI_add]; congr 1; omega)) (by omega) (Nat.le_of_ble_eq_true rfl) ?_
      show ab_Z m_Mo_apartOf _ _ _ 18 [_, _, _, _, _] [_, _] _
      refine ab_go ok_Mo_apartOf 9 rfl ?_
      show ab_Z m_Mo_apartOf _ _ _ 27 [_, _, _, _, _] [_, _, _, _] _
      refine ab_ia ok_Mo_apartOf rfl rfl (k := (21 + 3 * b + k)) (by first | rfl | (simp only [LL1, LL2, LL3, LL4, LL5, LL6, LL7, LL8, LL10, LL15, LL18, LL20, LL21, LL22, LL23, LL24, LL32, LL39, LL40, LL130, LL420, pk_mul, nI_add]; done) | (simp only [LL1, LL2, LL3, LL4, LL5, LL6, LL7, LL8, LL10, LL15, LL18, LL20, LL21, LL22, LL23, LL24, LL32, LL39, LL40, LL130, LL420, pk_mul, nI_add]; congr 1; omega)) (by omega) (Nat.le_of_ble_eq_true rfl) ?_
      show ab_Z m_Mo_apartOf _ _ _ 28 [_, _, _, _, _] [_, _, _] _
      refine ab_cl ok_Mo_apartOf rfl [_, _] [_] rfl rfl (Nat.le_of_ble_eq_true rfl) (t_Mo_off d _ _ _) ?_
      rintro _ _ ⟨rfl, rfl⟩
      show ab_Z m_Mo_apartOf _ _ _ 29 [_, _, _, _, _] [_, _] _
      have e1 := hp a k ha hk
      have e2 := hp b k hb hk
      rw [vR_p h5 ha hk] at e1
      rw [vR_p h5 hb hk] at e2
      rw [off_abs e1.1 e1.2 e2.1 e2.2, show absF (s 114 (21 + 3 * a + k) - s 114 (21 + 3 * b + k)) = g k from by rw [← hg]; dsimp only; rw [vR_p h5 ha hk, vR_p h5 hb hk]]
      refine ab_go ok_Mo_apartOf 4 rfl ?_
      show ab_Z m_Mo_apartOf _ _ _ 4 [_, _, _, _, _] [] _
      exact ih
theorem t_Mo_apart (hC : RC s lv T nc nd nt PT PG PB PF) (hQ : QI (vR T nc nd (s 114)) nc nd nt) (x y : Int32) : ab_T g_Mo_apart (d + 2) (0, 0) [.ref 81, .int x, .int y] (HA fm X s t) (PR w4 (if inR nd x ∧ inR nd y then aptV (vR T nc nd (s 114)) x.toNatClampNeg y.toNatClampNeg else -1) fm X s t) := by
  have h6 := hC.1.2.2.2.1.2
  generalize hPo : PR w4 (if inR nd x ∧ inR nd y then aptV (vR T nc nd (s 114)) x.toNatClampNeg y.toNatClampNeg else -1) fm X s t = Po
  have no : ¬ (inR nd x ∧ inR nd y) → ab_Z m_Mo_apart (d + 2) (0, 0) Po 13 [some (.ref 81), some (.int x), some (.int y)] [] (HA fm X s t) := by
    intro hn
    rw [if_neg hn] at hPo
    refine ab_go ok_Mo_apart 1 rfl ?_
    show ab_Z m_Mo_apart _ _ _ 14 [_, _, _] [_] _
    have fin : Po (some (.int (-1))) (HA fm X s t) := by
      rw [← hPo]
      exact ⟨rfl, s, rfl, Kr.rf w4 s⟩
    exact ab_rI ok_Mo_apart rfl (fin)
  refine ab_T_of (M := m_Mo_apart) rfl rfl (Nat.le_of_ble_eq_true rfl) ?_
  show ab_Z m_Mo_apart _ _ _ 0 [_, _, _] [] _
  refine ab_go ok_Mo_apart 2 rfl ?_
  show ab_Z m_Mo_apart _ _ _ 2 [_, _, _] [_, _] _
  refine ab_cl ok_Mo_apart rfl [_, _] [] rfl ⟨_, _, rfl, rfl, Or.inl ⟨_, _, rfl, rfl⟩⟩ (Nat.le_of_ble_eq_true rfl) (t_Mo_isDeed d fm X s T t hC.1 x) ?_
  rintro _ _ ⟨rfl, rfl⟩
  show ab_Z m_Mo_apart _ _ _ 3 [_, _, _] [_] _
  refine ab_br ok_Mo_apart rfl rfl ?_ ?_
  · intro h1
    show ab_Z m_Mo_apart _ _ _ 13 [_, _, _] [] _
    exact no (fun q => bI_0.mp h1 q.1)
  · intro h1
    show ab_Z m_Mo_apart _ _ _ 4 [_, _, _] [] _
    refine ab_go ok_Mo_apart 2 rfl ?_
    show ab_Z m_Mo_apart _ _ _ 6 [_, _, _] [_, _] _
    refine ab_cl ok_Mo_apart rfl [_, _] [] rfl ⟨_, _, rfl, rfl, Or.inl ⟨_, _, rfl, rfl⟩⟩ (Nat.le_of_ble_eq_true rfl) (t_Mo_isDeed d fm X s T t hC.1 y) ?_
    rintro _ _ ⟨rfl, rfl⟩
    show ab_Z m_Mo_apart _ _ _ 7 [_, _, _] [_] _
    refine ab_br ok_Mo_apart rfl rfl ?_ ?_
    · intro h2
      show ab_Z m_Mo_apart _ _ _ 13 [_, _, _] [] _
      exact no (fun q => bI_0.mp h2 q.2)
    · intro h2
      show ab_Z m_Mo_apart _ _ _ 8 [_, _, _] [] _
      rw [if_pos ⟨bI_n0 h1, bI_n0 h2⟩] at hPo
      obtain ⟨a, ha, rfl⟩ := inR_nat (bI_n0 h1)
      obtain ⟨b, hb, rfl⟩ := inR_nat (bI_n0 h2)
      rw [nI_c (by omega), nI_c (by omega)] at hPo
      refine ab_go ok_Mo_apart 3 rfl ?_
      show ab_Z m_Mo_apart _ _ _ 11 [_, _, _] [_, _, _] _
      refine ab_cl ok_Mo_apart rfl [_, _, _] [] rfl ⟨_, _, rfl, rfl, Or.inl ⟨_, _, rfl, rfl⟩⟩ (Nat.le_of_ble_eq_true rfl) (t_Mo_apartOf d fm X s T t hC hQ ha hb) ?_
      rintro _ _ ⟨rfl, rfl⟩
      show ab_Z m_Mo_apart _ _ _ 12 [_, _, _] [_] _
      refine ab_go ok_Mo_apart 1 rfl ?_
      show ab_Z m_Mo_apart _ _ _ 14 [_, _, _] [_] _
      have fin : Po (some (.int (aptV (vR T nc nd (s 114)) a b))) (HA fm X s t) := by
        rw [← hPo]
        exact ⟨rfl, s, rfl, Kr.rf w4 s⟩
      exact ab_rI ok_Mo_apart rfl (fin)
theorem t_Mo_inState (hR : RT s lv T nc nd nt) (x : Int32) : ab_T g_Mo_inState d (0, 0) [.ref 81, .int x] (HA fm X s t) (PI (nI (bitsN (fun k => decide (vR T nc nd (s 114) 11 (33 + k) = x)) nd)) (HA fm X s t)) := by
  have h2 := hR.2.1
  have h5 := hR.2.2.1.2
  have h6 := hR.2.2.2.1.2
  rw [bitsN_cg (p := fun k => decide (vR T nc nd (s 114) 11 (33 + k) = x)) (q := fun k => decide (s 114 (15 + k) = x)) (fun k hk => by rw [vR_s h5 h6 hk])]
  refine ab_T_of (M := m_Mo_inState) rfl rfl (Nat.le_of_ble_eq_true rfl) ?_
  show ab_Z m_Mo_inState _ _ _ 0 [_, _, _, _] [] _
  refine ab_go ok_Mo_inState 4 rfl ?_
  show ab_Z m_Mo_inState _ _ _ 4 [_, _, _, _] [] _
  refine lp_dn nd (fun k => ab_Z m_Mo_inState d (0, 0) _ 4 [some (.ref 81), some (.int x), some (.int (nI (bitsN (fun k => decide (s 114 (15 + k) = x)) k))), some (.int (nI k))] [] (HA fm X s t)) ?_ ?_
  · refine ab_go ok_Mo_inState 5 rfl ?_
    show ab_Z m_Mo_inState _ _ _ 9 [_, _, _, _] [_, _, _] _
    rw [hR.1]
    refine ab_ia ok_Mo_inState rfl rfl (k := lv) (by first | rfl | (simp only [LL1, LL2, LL3, LL4, LL5, LL6, LL7, LL8, LL10, LL15, LL18, LL20, LL21, LL22, LL23, LL24, LL32, LL39, LL40, LL130, LL420, pk_mul, nI_add]; done) | (simp only [LL1, LL2, LL3, LL4, LL5, LL6, LL7, LL8, LL10, LL15, LL18, LL20, LL21, LL22, LL23, LL24, LL32, LL39, LL40, LL130, LL420, pk_mul, nI_add]; congr 1; omega)) (by omega) (Nat.le_of_ble_eq_true rfl) ?_
    show ab_Z m_Mo_inState _ _ _ 10 [_, _, _, _] [_, _] _
    rw [hR.2.2.2.1.1]
    refine ab_br ok_Mo_inState rfl rfl ?_ ?_
    · intro h1
      show ab_Z m_Mo_inState _ _ _ 27 [_, _, _, _] [] _
      refine ab_go ok_Mo_inState 1 rfl ?_
      show ab_Z m_Mo_inState _ _ _ 28 [_, _, _, _] [_] _
      exact ab_rI ok_Mo_inState rfl (⟨rfl, rfl⟩)
    · intro h1
      show ab_Z m_Mo_inState _ _ _ 11 [_, _, _, _] [] _
      exact absurd (lp_out nd) h1
  · intro k hk ih
    refine ab_go ok_Mo_inState 5 rfl ?_
    show ab_Z m_Mo_inState _ _ _ 9 [_, _, _, _] [_, _, _] _
    rw [hR.1]
    refine ab_ia ok_Mo_inState rfl rfl (k := lv) (by first | rfl | (simp only [LL1, LL2, LL3, LL4, LL5, LL6, LL7, LL8, LL10, LL15, LL18, LL20, LL21, LL22, LL23, LL24, LL32, LL39, LL40, LL130, LL420, pk_mul, nI_add]; done) | (simp only [LL1, LL2, LL3, LL4, LL5, LL6, LL7, LL8, LL10, LL15, LL18, LL20, LL21, LL22, LL23, LL24, LL32, LL39, LL40, LL130, LL420, pk_mul, nI_add]; congr 1; omega)) (by omega) (Nat.le_of_ble_eq_true rfl) ?_
    show ab_Z m_Mo_inState _ _ _ 10 [_, _, _, _] [_, _] _
    rw [hR.2.2.2.1.1]
    refine ab_br ok_Mo_inState rfl rfl ?_ ?_
    · intro h1
      show ab_Z m_Mo_inState _ _ _ 27 [_, _, _, _] [] _
      exact absurd h1 (lp_in (by omega) hk)
    · intro h1
      show ab_Z m_Mo_inState _ _ _ 11 [_, _, _, _] [] _
      refine ab_go ok_Mo_inState 5 rfl ?_
      show ab_Z m_Mo_inState _ _ _ 16 [_, _, _, _] [_, _] _
      refine ab_ia ok_Mo_inState rfl rfl (k := (15 + k)) (by first | rfl | (simp only [LL1, LL2, LL3, LL4, LL5, LL6, LL7, LL8, LL10, LL15, LL18, LL20, LL21, LL22, LL23, LL24, LL32, LL39, LL40, LL130, LL420, pk_mul, nI_add]; done) | (simp only [LL1, LL2, LL3, LL4, LL5, LL6, LL7, LL8, LL10, LL15, LL18, LL20, LL21, LL22, LL23, LL24, LL32, LL39, LL40, LL130, LL420, pk_mul, nI_add]; congr 1; omega)) (by omega) (Nat.le_of_ble_eq_true rfl) ?_
      show ab_Z m_Mo_inState _ _ _ 17 [_, _, _, _] [_] _
      refine ab_go ok_Mo_inState 1 rfl ?_
      show ab_Z m_Mo_inState _ _ _ 18 [_, _, _, _] [_, _] _
      refine ab_br ok_Mo_inState rfl rfl ?_ ?_
      · intro hx
        show ab_Z m_Mo_inState _ _ _ 19 [_, _, _, _] [] _
        refine ab_go ok_Mo_inState 8 rfl ?_
        show ab_Z m_Mo_inState _ _ _ 4 [_, _, _, _] [] _
        rw [bitsN_or _ (by omega) (decide_eq_true hx), ← nI_succ]
        exact ih
      · intro hx
        show ab_Z m_Mo_inState _ _ _ 25 [_, _, _, _] [] _
        refine ab_go ok_Mo_inState 2 rfl ?_
        show ab_Z m_Mo_inState _ _ _ 4 [_, _, _, _] [] _
        rw [bitsN_no _ (decide_eq_false hx), nI_succ] at ih
        exact ih
theorem t_Mo_sumNow {a n : Nat} (h : a + n ≤ 40) (x y : Int32) (hx : x = nI a) (hy : y = nI n) : ab_T g_Mo_sumNow d (0, 0) [.ref 81, .int x, .int y] (HA fm X s t) (PI (sumV (fun j => s 114 (a + j)) n) (HA fm X s t)) := by
  subst hx hy
  refine ab_T_of (M := m_Mo_sumNow) rfl rfl (Nat.le_of_ble_eq_true rfl) ?_
  show ab_Z m_Mo_sumNow _ _ _ 0 [_, _, _, _, _] [] _
  refine ab_go ok_Mo_sumNow 4 rfl ?_
  show ab_Z m_Mo_sumNow _ _ _ 4 [_, _, _, _, _] [] _
  refine lp_dn n (fun k => ab_Z m_Mo_sumNow d (0, 0) (PI (sumV (fun j => s 114 (a + j)) n) (HA fm X s t)) 4 [some (.ref 81), some (.int (nI a)), some (.int (nI n)), some (.int (sumV (fun j => s 114 (a + j)) k)), some (.int (nI (a + k)))] [] (HA fm X s t)) ?_ ?_
  · refine ab_go ok_Mo_sumNow 4 rfl ?_
    show ab_Z m_Mo_sumNow _ _ _ 8 [_, _, _, _, _] [_, _] _
    rw [nI_add]
    refine ab_br ok_Mo_sumNow rfl rfl ?_ ?_
    · intro h1
      show ab_Z m_Mo_sumNow _ _ _ 18 [_, _, _, _, _] [] _
      refine ab_go ok_Mo_sumNow 1 rfl ?_
      show ab_Z m_Mo_sumNow _ _ _ 19 [_, _, _, _, _] [_] _
      exact ab_rI ok_Mo_sumNow rfl (⟨rfl, rfl⟩)
    · intro h1
      show ab_Z m_Mo_sumNow _ _ _ 9 [_, _, _, _, _] [] _
      exact absurd (lp_out _) h1
  · intro k hk ih
    rw [sumV, ← Nat.add_assoc, nI_succ] at ih
    refine ab_go ok_Mo_sumNow 4 rfl ?_
    show ab_Z m_Mo_sumNow _ _ _ 8 [_, _, _, _, _] [_, _] _
    rw [nI_add]
    refine ab_br ok_Mo_sumNow rfl rfl ?_ ?_
    · intro h1
      show ab_Z m_Mo_sumNow _ _ _ 18 [_, _, _, _, _] [] _
      exact absurd h1 (lp_in (by omega) (by omega))
    · intro h1
      show ab_Z m_Mo_sumNow _ _ _ 9 [_, _, _, _, _] [] _
      refine ab_go ok_Mo_sumNow 4 rfl ?_
      show ab_Z m_Mo_sumNow _ _ _ 13 [_, _, _, _, _] [_, _, _] _
      refine ab_ia ok_Mo_sumNow rfl rfl (k := (a + k)) (by first | rfl | (simp only [LL1, LL2, LL3, LL4, LL5, LL6, LL7, LL8, LL10, LL15, LL18, LL20, LL21, LL22, LL23, LL24, LL32, LL39, LL40, LL130, LL420, pk_mul, nI_add]; done) | (simp only [LL1, LL2, LL3, LL4, LL5, LL6, LL7, LL8, LL10, LL15, LL18, LL20, LL21, LL22, LL23, LL24, LL32, LL39, LL40, LL130, LL420, pk_mul, nI_add]; congr 1; omega)) (by omega) (Nat.le_of_ble_eq_true rfl) ?_
      show ab_Z m_Mo_sumNow _ _ _ 14 [_, _, _, _, _] [_, _] _
      refine ab_go ok_Mo_sumNow 4 rfl ?_
      show ab_Z m_Mo_sumNow _ _ _ 4 [_, _, _, _, _] [] _
      exact ih
end

