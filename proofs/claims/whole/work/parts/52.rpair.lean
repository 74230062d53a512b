/-! the reference's face: pairs -/
def okP (p : Int32 × Int32) : Prop := p.1 = -2 ∨ ∃ m, m < 1000 ∧ p.1 = nI m
theorem okP.lt {p : Int32 × Int32} (h : okP p) : p.1 < 0 ↔ p.1 = -2 := by
  rcases h with h | ⟨m, hm, h⟩
  · rw [h]; decide
  · rw [h]
    exact ⟨fun z => absurd z (nI_l0 (by omega)), fun z => absurd z (nI_ne2 hm)⟩
theorem prS_ok {ok : Nat → Nat → Bool} {df : Nat → Nat → Int32} {a o : Nat} (ha : a < 10) (ho : o < 10) {p : Int32 × Int32} (h : okP p) : okP (prS ok df a o p) := by
  unfold prS
  split
  · exact Or.inr ⟨10 * a + o, by omega, rfl⟩
  · exact h
theorem prI_ok {ok : Nat → Nat → Bool} {df : Nat → Nat → Int32} {a : Nat} {p : Int32 × Int32} (h : okP p) : ∀ j, a + 1 + j ≤ 10 → okP (prI ok df a p j)
  | 0, _ => h
  | j + 1, hj => prS_ok (by omega) (by omega) (prI_ok h j (by omega))
theorem prO_ok {ok : Nat → Nat → Bool} {df : Nat → Nat → Int32} {n : Nat} (hn : n ≤ 6) : ∀ a, a ≤ n → okP (prO ok df n a)
  | 0, _ => Or.inl rfl
  | a + 1, ha => prI_ok (prO_ok hn a (by omega)) _ (by omega)
section
variable (d : Nat) (fm : Value) (X : Nat × (Nat → Int32)) (s T : Nat → Nat → Int32) (t : Nat → Nat → Int64)
variable {lv nc nd nt : Nat} {PT PG PB PF : List (List Ins)}
theorem t_Mo_isOpen' (hR : RT s lv T nc nd nt) {e : Nat} (he : e < nd) : ab_T g_Mo_isOpen (d + 2) (0, 0) [.ref 81, .int (nI e)] (HA fm X s t) (PI (bB (openB (vR T nc nd (s 114)) e)) (HA fm X s t)) := by
  have h6 := hR.2.2.2.1.2
  refine ab_T_mono (t_Mo_isOpen d fm X s T t hR (nI e)) fun v h hp => ⟨?_, hp.2⟩
  rw [hp.1, nI_c (by omega)]
  apply som
  cases hx : openB (vR T nc nd (s 114)) e
  · exact bI_f (fun z => by cases z.2)
  · exact bI_t ⟨inR_nI he (by omega), rfl⟩
theorem t_Mo_like (hC : RC s lv T nc nd nt PT PG PB PF) (hQ : QI (vR T nc nd (s 114)) nc nd nt) (w : Int32) : ab_T g_Mo_like (d + 3) (0, 0) [.ref 81, .int w] (HA fm X s t) (PR w4 (if w = 0 ∨ w = 1 then selA (prW (likB (vR T nc nd (s 114))) (aptV (vR T nc nd (s 114))) nd) w else -1) fm X s t) := by
  have hlv := hC.1.2.1
  have h6 := hC.1.2.2.2.1.2
  refine ab_T_of (M := m_Mo_like) rfl rfl (Nat.le_of_ble_eq_true rfl) ?_
  show ab_Z m_Mo_like _ _ _ 0 [_, _, _, _, _, _] [] _
  refine ab_go ok_Mo_like 3 rfl ?_
  show ab_Z m_Mo_like _ _ _ 3 [_, _, _, _, _, _] [_, _, _] _
  refine ab_cl ok_Mo_like rfl [_, _, _] [] rfl rfl (Nat.le_of_ble_eq_true rfl) (t_Mo_in (d + 2) _ w 0 1) ?_
  rintro _ _ ⟨rfl, rfl⟩
  show ab_Z m_Mo_like _ _ _ 4 [_, _, _, _, _, _] [_] _
  rw [bI_c (in01 w)]
  refine ab_br ok_Mo_like rfl rfl ?_ ?_
  · intro h1
    show ab_Z m_Mo_like _ _ _ 5 [_, _, _, _, _, _] [] _
    refine ab_go ok_Mo_like 1 rfl ?_
    show ab_Z m_Mo_like _ _ _ 6 [_, _, _, _, _, _] [_] _
    exact ab_rI ok_Mo_like rfl (⟨by rw [if_neg (bI_0.mp h1)], s, rfl, Kr.rf w4 s⟩)
  · intro h1
    show ab_Z m_Mo_like _ _ _ 7 [_, _, _, _, _, _] [] _
    have hw := bI_n0 h1
    rw [if_pos hw]
    generalize hok : likB (vR T nc nd (s 114)) = ok
    generalize hdf : aptV (vR T nc nd (s 114)) = df
    have hap : ∀ a b, a < nd → b < nd → ab_T g_Mo_apartOf (d + 1 + 1) (0, 0) [.ref 81, .int (nI a), .int (nI b)] (HA fm X s t) (PI (df a b) (HA fm X s t)) := fun a b ha hb => by rw [← hdf]; exact t_Mo_apartOf (d + 1) fm X s T t hC hQ ha hb
    have hop : ∀ a, a < nd → ab_T g_Mo_isOpen (d + 2) (0, 0) [.ref 81, .int (nI a)] (HA fm X s t) (PI (bB (openB (vR T nc nd (s 114)) a)) (HA fm X s t)) := fun a ha => t_Mo_isOpen' d fm X s T t hC.1 ha
    have hokv : ∀ a b, ok a b = (!openB (vR T nc nd (s 114)) a && !openB (vR T nc nd (s 114)) b) := fun a b => by rw [← hok]; rfl
    unfold prW
    refine ab_go ok_Mo_like 6 rfl ?_
    show ab_Z m_Mo_like _ _ _ 13 [_, _, _, _, _, _] [] _
    refine lp_dn nd (fun a => ab_Z m_Mo_like (d + 3) (0, 0) (PR w4 (selA (prO ok df nd nd) w) fm X s t) 13 [some (.ref 81), some (.int w), some (.int (prO ok df nd a).1), some (.int (prO ok df nd a).2), some (.int (nI a)), none] [] (HA fm X s t)) ?_ ?_
    · refine ab_go ok_Mo_like 5 rfl ?_
      show ab_Z m_Mo_like _ _ _ 18 [_, _, _, _, _, _] [_, _, _] _
      rw [hC.1.1]
      refine ab_ia ok_Mo_like rfl rfl (k := lv) (by first | rfl | (simp only [LL1, LL2, LL3, LL4, LL5, LL6, LL7, LL8, LL10, LL15, LL18, LL20, LL21, LL22, LL23, LL24, LL32, LL39, LL40, LL130, LL420, pk_mul, nI_add]; done) | (simp only [LL1, LL2, LL3, LL4, LL5, LL6, LL7, LL8, LL10, LL15, LL18, LL20, LL21, LL22, LL23, LL24, LL32, LL39, LL40, LL130, LL420, pk_mul, nI_add]; congr 1; omega)) (by omega) (Nat.le_of_ble_eq_true rfl) ?_
      show ab_Z m_Mo_like _ _ _ 19 [_, _, _, _, _, _] [_, _] _
      rw [hC.1.2.2.2.1.1]
      refine ab_br ok_Mo_like rfl rfl ?_ ?_
      · intro h2
        show ab_Z m_Mo_like _ _ _ 63 [_, _, _, _, _, _] [] _
        refine ab_go ok_Mo_like 1 rfl ?_
        show ab_Z m_Mo_like _ _ _ 64 [_, _, _, _, _, _] [_] _
        refine ab_br ok_Mo_like rfl rfl ?_ ?_
        · intro h3
          show ab_Z m_Mo_like _ _ _ 65 [_, _, _, _, _, _] [] _
          refine ab_go ok_Mo_like 2 rfl ?_
          show ab_Z m_Mo_like _ _ _ 68 [_, _, _, _, _, _] [_] _
          exact ab_rI ok_Mo_like rfl (⟨som (by unfold selA; rw [if_pos h3]), s, rfl, Kr.rf w4 s⟩)
        · intro h3
          show ab_Z m_Mo_like _ _ _ 67 [_, _, _, _, _, _] [] _
          refine ab_go ok_Mo_like 1 rfl ?_
          show ab_Z m_Mo_like _ _ _ 68 [_, _, _, _, _, _] [_] _
          exact ab_rI ok_Mo_like rfl (⟨som (by unfold selA; rw [if_neg h3]), s, rfl, Kr.rf w4 s⟩)
      · intro h2
        show ab_Z m_Mo_like _ _ _ 20 [_, _, _, _, _, _] [] _
        exact absurd (lp_out nd) h2
    · intro a ha ih
      have hp := prO_ok (ok := ok) (df := df) h6 a (by omega)
      rw [prO, nI_succ] at ih
      generalize prO ok df nd a = p at hp ih ⊢
      refine ab_go ok_Mo_like 5 rfl ?_
      show ab_Z m_Mo_like _ _ _ 18 [_, _, _, _, _, _] [_, _, _] _
      rw [hC.1.1]
      refine ab_ia ok_Mo_like rfl rfl (k := lv) (by first | rfl | (simp only [LL1, LL2, LL3, LL4, LL5, LL6, LL7, LL8, LL10, LL15, LL18, LL20, LL21, LL22, LL23, LL24, LL32, LL39, LL40, LL130, LL420, pk_mul, nI_add]; done) | (simp only [LL1, LL2, LL3, LL4, LL5, LL6, LL7, LL8, LL10, LL15, LL18, LL20, LL21, LL22, LL23, LL24, LL32, LL39, LL40, LL130, LL420, pk_mul, nI_add]; congr 1; omega)) (by omega) (Nat.le_of_ble_eq_true rfl) ?_
      show ab_Z m_Mo_like _ _ _ 19 [_, _, _, _, _, _] [_, _] _
      rw [hC.1.2.2.2.1.1]
      refine ab_br ok_Mo_like rfl rfl ?_ ?_
      · intro h2
        show ab_Z m_Mo_like _ _ _ 63 [_, _, _, _, _, _] [] _
        exact absurd h2 (lp_in (by omega) ha)
      · intro h2
        show ab_Z m_Mo_like _ _ _ 20 [_, _, _, _, _, _] [] _
        refine ab_go ok_Mo_like 4 rfl ?_
        show ab_Z m_Mo_like _ _ _ 24 [_, _, _, _, _, _] [] _
        have := lp_dn (nd - (a + 1)) (fun j => ab_Z m_Mo_like (d + 3) (0, 0) (PR w4 (selA (prO ok df nd nd) w) fm X s t) 24 [some (.ref 81), some (.int w), some (.int (prI ok df a p j).1), some (.int (prI ok df a p j).2), some (.int (nI a)), some (.int (nI (a + 1 + j)))] [] (HA fm X s t)) ?_ ?_
        · rw [Nat.add_zero, nI_succ] at this
          exact this
        · rw [show a + 1 + (nd - (a + 1)) = nd by omega]
          refine ab_go ok_Mo_like 5 rfl ?_
          show ab_Z m_Mo_like _ _ _ 29 [_, _, _, _, _, _] [_, _, _] _
          rw [hC.1.1]
          refine ab_ia ok_Mo_like rfl rfl (k := lv) (by first | rfl | (simp only [LL1, LL2, LL3, LL4, LL5, LL6, LL7, LL8, LL10, LL15, LL18, LL20, LL21, LL22, LL23, LL24, LL32, LL39, LL40, LL130, LL420, pk_mul, nI_add]; done) | (simp only [LL1, LL2, LL3, LL4, LL5, LL6, LL7, LL8, LL10, LL15, LL18, LL20, LL21, LL22, LL23, LL24, LL32, LL39, LL40, LL130, LL420, pk_mul, nI_add]; congr 1; omega)) (by omega) (Nat.le_of_ble_eq_true rfl) ?_
          show ab_Z m_Mo_like _ _ _ 30 [_, _, _, _, _, _] [_, _] _
          rw [hC.1.2.2.2.1.1]
          refine ab_br ok_Mo_like rfl rfl ?_ ?_
          · intro h3
            show ab_Z m_Mo_like _ _ _ 61 [_, _, _, _, _, _] [] _
            refine ab_go ok_Mo_like 2 rfl ?_
            show ab_Z m_Mo_like _ _ _ 13 [_, _, _, _, _, _] [] _
            exact ih
          · intro h3
            show ab_Z m_Mo_like _ _ _ 31 [_, _, _, _, _, _] [] _
            exact absurd (lp_out nd) h3
        · intro j hj ihj
          have hq := prI_ok (ok := ok) (df := df) (a := a) hp j (by omega)
          rw [prI, ← Nat.add_assoc, nI_succ (a + 1 + j), prS] at ihj
          generalize prI ok df a p j = q at hq ihj ⊢
          have ho : a + 1 + j < nd := by omega
          generalize a + 1 + j = o at ho ihj ⊢
          refine ab_go ok_Mo_like 5 rfl ?_
          show ab_Z m_Mo_like _ _ _ 29 [_, _, _, _, _, _] [_, _, _] _
          rw [hC.1.1]
          refine ab_ia ok_Mo_like rfl rfl (k := lv) (by first | rfl | (simp only [LL1, LL2, LL3, LL4, LL5, LL6, LL7, LL8, LL10, LL15, LL18, LL20, LL21, LL22, LL23, LL24, LL32, LL39, LL40, LL130, LL420, pk_mul, nI_add]; done) | (simp only [LL1, LL2, LL3, LL4, LL5, LL6, LL7, LL8, LL10, LL15, LL18, LL20, LL21, LL22, LL23, LL24, LL32, LL39, LL40, LL130, LL420, pk_mul, nI_add]; congr 1; omega)) (by omega) (Nat.le_of_ble_eq_true rfl) ?_
          show ab_Z m_Mo_like _ _ _ 30 [_, _, _, _, _, _] [_, _] _
          rw [hC.1.2.2.2.1.1]
          refine ab_br ok_Mo_like rfl rfl ?_ ?_
          · intro h3
            show ab_Z m_Mo_like _ _ _ 61 [_, _, _, _, _, _] [] _
            exact absurd h3 (lp_in (by omega) ho)
          · intro h3
            show ab_Z m_Mo_like _ _ _ 31 [_, _, _, _, _, _] [] _
            refine ab_go ok_Mo_like 2 rfl ?_
            show ab_Z m_Mo_like _ _ _ 33 [_, _, _, _, _, _] [_, _] _
            refine ab_cl ok_Mo_like rfl [_, _] [] rfl ⟨_, _, rfl, rfl, Or.inl ⟨_, _, rfl, rfl⟩⟩ (Nat.le_of_ble_eq_true rfl) (hop a ha) ?_
            rintro _ _ ⟨rfl, rfl⟩
            show ab_Z m_Mo_like _ _ _ 34 [_, _, _, _, _, _] [_] _
            refine ab_br ok_Mo_like rfl rfl ?_ ?_
            · intro h4
              show ab_Z m_Mo_like _ _ _ 35 [_, _, _, _, _, _] [] _
              refine ab_go ok_Mo_like 2 rfl ?_
              show ab_Z m_Mo_like _ _ _ 37 [_, _, _, _, _, _] [_, _] _
              refine ab_cl ok_Mo_like rfl [_, _] [] rfl ⟨_, _, rfl, rfl, Or.inl ⟨_, _, rfl, rfl⟩⟩ (Nat.le_of_ble_eq_true rfl) (hop o ho) ?_
              rintro _ _ ⟨rfl, rfl⟩
              show ab_Z m_Mo_like _ _ _ 38 [_, _, _, _, _, _] [_] _
              refine ab_br ok_Mo_like rfl rfl ?_ ?_
              · intro h5
                show ab_Z m_Mo_like _ _ _ 39 [_, _, _, _, _, _] [] _
                have hok1 : ok a o = true := by rw [hokv, bB_0.mp h4, bB_0.mp h5]; rfl
                have hyes : (q.1 = -2 ∨ df a o < q.2) → ab_Z m_Mo_like (d + 3) (0, 0) (PR w4 (selA (prO ok df nd nd) w) fm X s t) 48 [some (.ref 81), some (.int w), some (.int q.1), some (.int q.2), some (.int (nI a)), some (.int (nI o))] [] (HA fm X s t) := by
                  intro hy
                  rw [if_pos ⟨hok1, hy⟩] at ihj
                  refine ab_go ok_Mo_like 9 rfl ?_
                  show ab_Z m_Mo_like _ _ _ 57 [_, _, _, _, _, _] [_, _, _] _
                  rw [pr_ix]
                  refine ab_cl ok_Mo_like rfl [_, _, _] [] rfl ⟨_, _, rfl, rfl, Or.inl ⟨_, _, rfl, rfl⟩⟩ (Nat.le_of_ble_eq_true rfl) (hap a o ha ho) ?_
                  rintro _ _ ⟨rfl, rfl⟩
                  show ab_Z m_Mo_like _ _ _ 58 [_, _, _, _, _, _] [_] _
                  refine ab_go ok_Mo_like 3 rfl ?_
                  show ab_Z m_Mo_like _ _ _ 24 [_, _, _, _, _, _] [] _
                  exact ihj
                refine ab_go ok_Mo_like 1 rfl ?_
                show ab_Z m_Mo_like _ _ _ 40 [_, _, _, _, _, _] [_] _
                refine ab_br ok_Mo_like rfl rfl ?_ ?_
                · intro h6'
                  show ab_Z m_Mo_like _ _ _ 48 [_, _, _, _, _, _] [] _
                  exact hyes (Or.inl (hq.lt.mp h6'))
                · intro h6'
                  show ab_Z m_Mo_like _ _ _ 41 [_, _, _, _, _, _] [] _
                  refine ab_go ok_Mo_like 3 rfl ?_
                  show ab_Z m_Mo_like _ _ _ 44 [_, _, _, _, _, _] [_, _, _] _
                  refine ab_cl ok_Mo_like rfl [_, _, _] [] rfl ⟨_, _, rfl, rfl, Or.inl ⟨_, _, rfl, rfl⟩⟩ (Nat.le_of_ble_eq_true rfl) (hap a o ha ho) ?_
                  rintro _ _ ⟨rfl, rfl⟩
                  show ab_Z m_Mo_like _ _ _ 45 [_, _, _, _, _, _] [_] _
                  refine ab_go ok_Mo_like 1 rfl ?_
                  show ab_Z m_Mo_like _ _ _ 46 [_, _, _, _, _, _] [_, _] _
                  refine ab_br ok_Mo_like rfl rfl ?_ ?_
                  · intro h7
                    show ab_Z m_Mo_like _ _ _ 48 [_, _, _, _, _, _] [] _
                    exact hyes (Or.inr h7)
                  · intro h7
                    show ab_Z m_Mo_like _ _ _ 47 [_, _, _, _, _, _] [] _
                    refine ab_go ok_Mo_like 3 rfl ?_
                    show ab_Z m_Mo_like _ _ _ 24 [_, _, _, _, _, _] [] _
                    rw [if_neg (fun z => z.2.elim (fun z => h6' (hq.lt.mpr z)) h7)] at ihj
                    exact ihj
              · intro h5
                show ab_Z m_Mo_like _ _ _ 59 [_, _, _, _, _, _] [] _
                refine ab_go ok_Mo_like 2 rfl ?_
                show ab_Z m_Mo_like _ _ _ 24 [_, _, _, _, _, _] [] _
                rw [if_neg (fun z => by rw [hokv, bB_n0 h5, Bool.not_true, Bool.and_false] at z; exact absurd z.1 (by decide))] at ihj
                exact ihj
            · intro h4
              show ab_Z m_Mo_like _ _ _ 59 [_, _, _, _, _, _] [] _
              refine ab_go ok_Mo_like 2 rfl ?_
              show ab_Z m_Mo_like _ _ _ 24 [_, _, _, _, _, _] [] _
              rw [if_neg (fun z => by rw [hokv, bB_n0 h4, Bool.not_true, Bool.false_and] at z; exact absurd z.1 (by decide))] at ihj
              exact ihj
theorem t_Mo_twins (hC : RC s lv T nc nd nt PT PG PB PF) (hQ : QI (vR T nc nd (s 114)) nc nd nt) (x w : Int32) : ab_T g_Mo_twins (d + 2) (0, 0) [.ref 81, .int x, .int w] (HA fm X s t) (PR w4 (if inR 3 x ∧ (w = 0 ∨ w = 1) then selA (prW (fun _ _ => true) (twnV (vR T nc nd (s 114)) x.toNatClampNeg) nc) w else -1) fm X s t) := by
  have hlv := hC.1.2.1
  have h5 := hC.1.2.2.1.2
  generalize hPo : PR w4 (if inR 3 x ∧ (w = 0 ∨ w = 1) then selA (prW (fun _ _ => true) (twnV (vR T nc nd (s 114)) x.toNatClampNeg) nc) w else -1) fm X s t = Po
  have no : ¬ (inR 3 x ∧ (w = 0 ∨ w = 1)) → ab_Z m_Mo_twins (d + 2) (0, 0) Po 8 [some (.ref 81), some (.int x), some (.int w), none, none, none, none, none] [] (HA fm X s t) := by
    intro hn
    rw [if_neg hn] at hPo
    refine ab_go ok_Mo_twins 1 rfl ?_
    show ab_Z m_Mo_twins _ _ _ 9 [_, _, _, _, _, _, _, _] [_] _
    have fin : Po (some (.int (-1))) (HA fm X s t) := by
      rw [← hPo]
      exact ⟨rfl, s, rfl, Kr.rf w4 s⟩
    exact ab_rI ok_Mo_twins rfl (fin)
  refine ab_T_of (M := m_Mo_twins) rfl rfl (Nat.le_of_ble_eq_true rfl) ?_
  show ab_Z m_Mo_twins _ _ _ 0 [_, _, _, _, _, _, _, _] [] _
  refine ab_go ok_Mo_twins 1 rfl ?_
  show ab_Z m_Mo_twins _ _ _ 1 [_, _, _, _, _, _, _, _] [_] _
  refine ab_cl ok_Mo_twins rfl [_] [] rfl rfl (Nat.le_of_ble_eq_true rfl) (t_Mo_isFeature d _ x) ?_
  rintro _ _ ⟨rfl, rfl⟩
  show ab_Z m_Mo_twins _ _ _ 2 [_, _, _, _, _, _, _, _] [_] _
  refine ab_br ok_Mo_twins rfl rfl ?_ ?_
  · intro h1
    show ab_Z m_Mo_twins _ _ _ 8 [_, _, _, _, _, _, _, _] [] _
    exact no (fun q => bI_0.mp h1 q.1)
  · intro h1
    show ab_Z m_Mo_twins _ _ _ 3 [_, _, _, _, _, _, _, _] [] _
    refine ab_go ok_Mo_twins 3 rfl ?_
    show ab_Z m_Mo_twins _ _ _ 6 [_, _, _, _, _, _, _, _] [_, _, _] _
    refine ab_cl ok_Mo_twins rfl [_, _, _] [] rfl rfl (Nat.le_of_ble_eq_true rfl) (t_Mo_in (d + 1) _ w 0 1) ?_
    rintro _ _ ⟨rfl, rfl⟩
    show ab_Z m_Mo_twins _ _ _ 7 [_, _, _, _, _, _, _, _] [_] _
    rw [bI_c (in01 w)]
    refine ab_br ok_Mo_twins rfl rfl ?_ ?_
    · intro h2
      show ab_Z m_Mo_twins _ _ _ 8 [_, _, _, _, _, _, _, _] [] _
      exact no (fun q => bI_0.mp h2 q.2)
    · intro h2
      show ab_Z m_Mo_twins _ _ _ 10 [_, _, _, _, _, _, _, _] [] _
      rw [if_pos ⟨bI_n0 h1, bI_n0 h2⟩] at hPo
      obtain ⟨f, hf, rfl⟩ := inR_nat (bI_n0 h1)
      rw [nI_c (by omega)] at hPo
      generalize hok : (fun _ _ => true : Nat → Nat → Bool) = ok at hPo
      obtain ⟨df, hdf⟩ : ∃ df, df = twnV (vR T nc nd (s 114)) f := ⟨_, rfl⟩
      rw [← hdf] at hPo
      have hdv : ∀ a b, a < nc → b < nc → (if s 114 (3 * a + f) < s 114 (3 * b + f) then s 114 (3 * b + f) - s 114 (3 * a + f) else s 114 (3 * a + f) - s 114 (3 * b + f)) = df a b := by
        intro a b ha hb
        obtain ⟨a1, a2, a3⟩ := hQ.2.1 a f ha hf
        obtain ⟨b1, b2, b3⟩ := hQ.2.1 b f hb hf
        rw [hdf, twnV, vR_l ha hf, vR_l hb hf]
        rw [vR_l ha hf] at a1 a2
        rw [vR_l hb hf] at b1 b2
        exact off_abs a1 (by omega) b1 (by omega)
      unfold prW at hPo
      refine ab_go ok_Mo_twins 6 rfl ?_
      show ab_Z m_Mo_twins _ _ _ 16 [_, _, _, _, _, _, _, _] [] _
      refine lp_dn nc (fun a => ab_Z m_Mo_twins (d + 2) (0, 0) Po 16 [some (.ref 81), some (.int (nI f)), some (.int w), some (.int (prO ok df nc a).1), some (.int (prO ok df nc a).2), some (.int (nI a)), none, none] [] (HA fm X s t)) ?_ ?_
      · refine ab_go ok_Mo_twins 5 rfl ?_
        show ab_Z m_Mo_twins _ _ _ 21 [_, _, _, _, _, _, _, _] [_, _, _] _
        rw [hC.1.1]
        refine ab_ia ok_Mo_twins rfl rfl (k := lv) (by first | rfl | (simp only [LL1, LL2, LL3, LL4, LL5, LL6, LL7, LL8, LL10, LL15, LL18, LL20, LL21, LL22, LL23, LL24, LL32, LL39, LL40, LL130, LL420, pk_mul, nI_add]; done) | (simp only [LL1, LL2, LL3, LL4, LL5, LL6, LL7, LL8, LL10, LL15, LL18, LL20, LL21, LL22, LL23, LL24, LL32, LL39, LL40, LL130, LL420, pk_mul, nI_add]; congr 1; omega)) (by omega) (Nat.le_of_ble_eq_true rfl) ?_
        show ab_Z m_Mo_twins _ _ _ 22 [_, _, _, _, _, _, _, _] [_, _] _
        rw [hC.1.2.2.1.1]
        refine ab_br ok_Mo_twins rfl rfl ?_ ?_
        · intro h3
          show ab_Z m_Mo_twins _ _ _ 70 [_, _, _, _, _, _, _, _] [] _
          refine ab_go ok_Mo_twins 1 rfl ?_
          show ab_Z m_Mo_twins _ _ _ 71 [_, _, _, _, _, _, _, _] [_] _
          refine ab_br ok_Mo_twins rfl rfl ?_ ?_
          · intro h4
            show ab_Z m_Mo_twins _ _ _ 72 [_, _, _, _, _, _, _, _] [] _
            refine ab_go ok_Mo_twins 2 rfl ?_
            show ab_Z m_Mo_twins _ _ _ 75 [_, _, _, _, _, _, _, _] [_] _
            have fin : Po (some (.int (prO ok df nc nc).1)) (HA fm X s t) := by
              rw [← hPo]
              exact ⟨som (by unfold selA; rw [if_pos h4]), s, rfl, Kr.rf w4 s⟩
            exact ab_rI ok_Mo_twins rfl (fin)
          · intro h4
            show ab_Z m_Mo_twins _ _ _ 74 [_, _, _, _, _, _, _, _] [] _
            refine ab_go ok_Mo_twins 1 rfl ?_
            show ab_Z m_Mo_twins _ _ _ 75 [_, _, _, _, _, _, _, _] [_] _
            have fin : Po (some (.int (prO ok df nc nc).2)) (HA fm X s t) := by
              rw [← hPo]
              exact ⟨som (by unfold selA; rw [if_neg h4]), s, rfl, Kr.rf w4 s⟩
            exact ab_rI ok_Mo_twins rfl (fin)
        · intro h3
          show ab_Z m_Mo_twins _ _ _ 23 [_, _, _, _, _, _, _, _] [] _
          exact absurd (lp_out nc) h3
      · intro a ha ih
        have hp := prO_ok (ok := ok) (df := df) (show nc ≤ 6 by omega) a (by omega)
        rw [prO, nI_succ] at ih
        generalize prO ok df nc a = p at hp ih ⊢
        refine ab_go ok_Mo_twins 5 rfl ?_
        show ab_Z m_Mo_twins _ _ _ 21 [_, _, _, _, _, _, _, _] [_, _, _] _
        rw [hC.1.1]
        refine ab_ia ok_Mo_twins rfl rfl (k := lv) (by first | rfl | (simp only [LL1, LL2, LL3, LL4, LL5, LL6, LL7, LL8, LL10, LL15, LL18, LL20, LL21, LL22, LL23, LL24, LL32, LL39, LL40, LL130, LL420, pk_mul, nI_add]; done) | (simp only [LL1, LL2, LL3, LL4, LL5, LL6, LL7, LL8, LL10, LL15, LL18, LL20, LL21, LL22, LL23, LL24, LL32, LL39, LL40, LL130, LL420, pk_mul, nI_add]; congr 1; omega)) (by omega) (Nat.le_of_ble_eq_true rfl) ?_
        show ab_Z m_Mo_twins _ _ _ 22 [_, _, _, _, _, _, _, _] [_, _] _
        rw [hC.1.2.2.1.1]
        refine ab_br ok_Mo_twins rfl rfl ?_ ?_
        · intro h3
          show ab_Z m_Mo_twins _ _ _ 70 [_, _, _, _, _, _, _, _] [] _
          exact absurd h3 (lp_in (by omega) ha)
        · intro h3
          show ab_Z m_Mo_twins _ _ _ 23 [_, _, _, _, _, _, _, _] [] _
          refine ab_go ok_Mo_twins 4 rfl ?_
          show ab_Z m_Mo_twins _ _ _ 27 [_, _, _, _, _, _, _, _] [] _
          have := lp_dn (nc - (a + 1)) (fun j => ab_Z m_Mo_twins (d + 2) (0, 0) Po 27 [some (.ref 81), some (.int (nI f)), some (.int w), some (.int (prI ok df a p j).1), some (.int (prI ok df a p j).2), some (.int (nI a)), some (.int (nI (a + 1 + j))), none] [] (HA fm X s t)) ?_ ?_
          · rw [Nat.add_zero, nI_succ] at this
            exact this
          · rw [show a + 1 + (nc - (a + 1)) = nc by omega]
            refine ab_go ok_Mo_twins 5 rfl ?_
            show ab_Z m_Mo_twins _ _ _ 32 [_, _, _, _, _, _, _, _] [_, _, _] _
            rw [hC.1.1]
            refine ab_ia ok_Mo_twins rfl rfl (k := lv) (by first | rfl | (simp only [LL1, LL2, LL3, LL4, LL5, LL6, LL7, LL8, LL10, LL15, LL18, LL20, LL21, LL22, LL23, LL24, LL32, LL39, LL40, LL130, LL420, pk_mul, nI_add]; done) | (simp only [LL1, LL2, LL3, LL4, LL5, LL6, LL7, LL8, LL10, LL15, LL18, LL20, LL21, LL22, LL23, LL24, LL32, LL39, LL40, LL130, LL420, pk_mul, nI_add]; congr 1; omega)) (by omega) (Nat.le_of_ble_eq_true rfl) ?_
            show ab_Z m_Mo_twins _ _ _ 33 [_, _, _, _, _, _, _, _] [_, _] _
            rw [hC.1.2.2.1.1]
            refine ab_br ok_Mo_twins rfl rfl ?_ ?_
            · intro h4
              show ab_Z m_Mo_twins _ _ _ 68 [_, _, _, _, _, _, _, _] [] _
              refine ab_go ok_Mo_twins 2 rfl ?_
              show ab_Z m_Mo_twins _ _ _ 16 [_, _, _, _, _, _, _, _] [] _
              exact ih
            · intro h4
              show ab_Z m_Mo_twins _ _ _ 34 [_, _, _, _, _, _, _, _] [] _
              exact absurd (lp_out nc) h4
          · intro j hj ihj
            have hq := prI_ok (ok := ok) (df := df) (a := a) hp j (by omega)
            rw [prI, ← Nat.add_assoc, nI_succ (a + 1 + j), prS] at ihj
            generalize prI ok df a p j = q at hq ihj ⊢
            have ho : a + 1 + j < nc := by omega
            generalize a + 1 + j = o at ho ihj ⊢
            have hok1 : ok a o = true := by rw [← hok]
            refine ab_go ok_Mo_twins 5 rfl ?_
            show ab_Z m_Mo_twins _ _ _ 32 [_, _, _, _, _, _, _, _] [_, _, _] _
            rw [hC.1.1]
            refine ab_ia ok_Mo_twins rfl rfl (k := lv) (by first | rfl | (simp only [LL1, LL2, LL3, LL4, LL5, LL6, LL7, LL8, LL10, LL15, LL18, LL20, LL21, LL22, LL23, LL24, LL32, LL39, LL40, LL130, LL420, pk_mul, nI_add]; done) | (simp only [LL1, LL2, LL3, LL4, LL5, LL6, LL7, LL8, LL10, LL15, LL18, LL20, LL21, LL22, LL23, LL24, LL32, LL39, LL40, LL130, LL420, pk_mul, nI_add]; congr 1; omega)) (by omega) (Nat.le_of_ble_eq_true rfl) ?_
            show ab_Z m_Mo_twins _ _ _ 33 [_, _, _, _, _, _, _, _] [_, _] _
            rw [hC.1.2.2.1.1]
            refine ab_br ok_Mo_twins rfl rfl ?_ ?_
            · intro h4
              show ab_Z m_Mo_twins _ _ _ 68 [_, _, _, _, _, _, _, _] [] _
              exact absurd h4 (lp_in (by omega) ho)
            · intro h4
              show ab_Z m_Mo_twins _ _ _ 34 [_, _, _, _, _, _, _, _] [] _
              refine ab_go ok_Mo_twins 7 rfl ?_
              show ab_Z m_Mo_twins _ _ _ 41 [_, _, _, _, _, _, _, _] [_, _] _
              refine ab_ia ok_Mo_twins rfl rfl (k := (3 * a + f)) (by first | rfl | (simp only [LL1, LL2, LL3, LL4, LL5, LL6, LL7, LL8, LL10, LL15, LL18, LL20, LL21, LL22, LL23, LL24, LL32, LL39, LL40, LL130, LL420, pk_mul, nI_add]; done) | (simp only [LL1, LL2, LL3, LL4, LL5, LL6, LL7, LL8, LL10, LL15, LL18, LL20, LL21, LL22, LL23, LL24, LL32, LL39, LL40, LL130, LL420, pk_mul, nI_add]; congr 1; omega)) (by omega) (Nat.le_of_ble_eq_true rfl) ?_
              show ab_Z m_Mo_twins _ _ _ 42 [_, _, _, _, _, _, _, _] [_] _
              refine ab_go ok_Mo_twins 7 rfl ?_
              show ab_Z m_Mo_twins _ _ _ 49 [_, _, _, _, _, _, _, _] [_, _, _] _
              refine ab_ia ok_Mo_twins rfl rfl (k := (3 * o + f)) (by first | rfl | (simp only [LL1, LL2, LL3, LL4, LL5, LL6, LL7, LL8, LL10, LL15, LL18, LL20, LL21, LL22, LL23, LL24, LL32, LL39, LL40, LL130, LL420, pk_mul, nI_add]; done) | (simp only [LL1, LL2, LL3, LL4, LL5, LL6, LL7, LL8, LL10, LL15, LL18, LL20, LL21, LL22, LL23, LL24, LL32, LL39, LL40, LL130, LL420, pk_mul, nI_add]; congr 1; omega)) (by omega) (Nat.le_of_ble_eq_true rfl) ?_
              show ab_Z m_Mo_twins _ _ _ 50 [_, _, _, _, _, _, _, _] [_, _] _
              refine ab_cl ok_Mo_twins rfl [_, _] [] rfl rfl (Nat.le_of_ble_eq_true rfl) (t_Mo_off (d + 1) _ _ _) ?_
              rintro _ _ ⟨rfl, rfl⟩
              show ab_Z m_Mo_twins _ _ _ 51 [_, _, _, _, _, _, _, _] [_] _
              rw [hdv a o ha ho]
              have hyes : (q.1 = -2 ∨ df a o < q.2) → ab_Z m_Mo_twins (d + 2) (0, 0) Po 58 [some (.ref 81), some (.int (nI f)), some (.int w), some (.int q.1), some (.int q.2), some (.int (nI a)), some (.int (nI o)), some (.int (df a o))] [] (HA fm X s t) := by
                intro hy
                rw [if_pos ⟨hok1, hy⟩] at ihj
                refine ab_go ok_Mo_twins 10 rfl ?_
                show ab_Z m_Mo_twins _ _ _ 27 [_, _, _, _, _, _, _, _] [] _
                rw [pr_ix]
                exact ihj
              refine ab_go ok_Mo_twins 2 rfl ?_
              show ab_Z m_Mo_twins _ _ _ 53 [_, _, _, _, _, _, _, _] [_] _
              refine ab_br ok_Mo_twins rfl rfl ?_ ?_
              · intro h6'
                show ab_Z m_Mo_twins _ _ _ 58 [_, _, _, _, _, _, _, _] [] _
                exact hyes (Or.inl (hq.lt.mp h6'))
              · intro h6'
                show ab_Z m_Mo_twins _ _ _ 54 [_, _, _, _, _, _, _, _] [] _
                refine ab_go ok_Mo_twins 2 rfl ?_
                show ab_Z m_Mo_twins _ _ _ 56 [_, _, _, _, _, _, _, _] [_, _] _
                refine ab_br ok_Mo_twins rfl rfl ?_ ?_
                · intro h7
                  show ab_Z m_Mo_twins _ _ _ 58 [_, _, _, _, _, _, _, _] [] _
                  exact hyes (Or.inr h7)
                · intro h7
                  show ab_Z m_Mo_twins _ _ _ 57 [_, _, _, _, _, _, _, _] [] _
                  refine ab_go ok_Mo_twins 3 rfl ?_
                  show ab_Z m_Mo_twins _ _ _ 27 [_, _, _, _, _, _, _, _] [] _
                  rw [if_neg (fun z => z.2.elim (fun z => h6' (hq.lt.mpr z)) h7)] at ihj
                  exact ihj
end

