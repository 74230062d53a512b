/-! the reference: who breaks -/
def rbV (P : Nat → Bool) : Nat → Int32
  | 0 => -1
  | n + 1 => if P n = true ∧ (rbV P n < 0 ∨ bcF (nI n) < bcF (rbV P n)) then nI n else rbV P n
theorem bc_lt {a b : Nat} (ha : a < 64) (hb : b < 64) : bcF (nI a) < bcF (nI b) ↔ pcN a < pcN b := by
  rw [bcF_64 a ha, bcF_64 b hb]
  have h1 := cnt_le (fun i => a.testBit i) 6
  have h2 := cnt_le (fun i => b.testBit i) 6
  exact nI_ltI (show pcN a < _ from Nat.lt_of_le_of_lt h1 (by decide)) (show pcN b < _ from Nat.lt_of_le_of_lt h2 (by decide))
theorem rb_or (P : Nat → Bool) : ∀ n, n ≤ 32 → (rbV P n = -1 ∧ ∀ x, x < n → P x = false) ∨ ∃ r, r < n ∧ rbV P n = nI r ∧ P r = true ∧ (∀ x, x < n → P x = true → pcN r ≤ pcN x) ∧ ∀ x, x < r → P x = true → pcN r < pcN x
  | 0, _ => Or.inl ⟨rfl, fun x hx => absurd hx (by omega)⟩
  | n + 1, hn => by
    rcases rb_or P n (by omega) with ⟨h1, h2⟩ | ⟨r, h1, h2, h3, h4, h5⟩
    · by_cases hp : P n = true
      · refine Or.inr ⟨n, by omega, ?_, hp, fun x hx hxp => ?_, fun x hx hxp => ?_⟩
        · rw [rbV, h1, if_pos ⟨hp, Or.inl (by decide)⟩]
        · by_cases hxn : x = n
          · rw [hxn]; exact Nat.le_refl _
          · rw [h2 x (by omega)] at hxp; cases hxp
        · rw [h2 x hx] at hxp; cases hxp
      · refine Or.inl ⟨?_, fun x hx => ?_⟩
        · rw [rbV, if_neg (fun z => hp z.1), h1]
        · by_cases hxn : x = n
          · rw [hxn]; exact Bool.not_eq_true _ ▸ hp
          · exact h2 x (by omega)
    · by_cases hp : P n = true ∧ pcN n < pcN r
      · refine Or.inr ⟨n, by omega, ?_, hp.1, fun x hx hxp => ?_, fun x hx hxp => ?_⟩
        · rw [rbV, h2, if_pos ⟨hp.1, Or.inr ((bc_lt (by omega) (by omega)).mpr hp.2)⟩]
        · by_cases hxn : x = n
          · rw [hxn]; exact Nat.le_refl _
          · have := h4 x (by omega) hxp; omega
        · have := h4 x hx hxp; omega
      · refine Or.inr ⟨r, by omega, ?_, h3, fun x hx hxp => ?_, h5⟩
        · rw [rbV, h2, if_neg (fun z => z.2.elim (fun q => nI_l0 (by omega) q) (fun q => hp ⟨z.1, (bc_lt (by omega) (by omega)).mp q⟩))]
        · by_cases hxn : x = n
          · rw [hxn]
            rcases Nat.lt_or_ge (pcN n) (pcN r) with h | h
            · exact absurd ⟨by rw [← hxn]; exact hxp, h⟩ hp
            · exact h
          · exact h4 x (by omega) hxp
theorem bk_or (s : Nat → Nat → Int32) (nt : Nat) : ∀ n, n ≤ 32 → (brkV s nt n = 31 ∧ ∀ x, x < n → allB (brkB s x) nt = true → 5 ≤ pcN x) ∨ ∃ r, r < n ∧ brkV s nt n = r ∧ pcN r < 5 ∧ allB (brkB s r) nt = true ∧ (∀ x, x < n → allB (brkB s x) nt = true → pcN r ≤ pcN x) ∧ ∀ x, x < r → allB (brkB s x) nt = true → pcN r < pcN x
  | 0, _ => Or.inl ⟨rfl, fun x hx => absurd hx (by omega)⟩
  | n + 1, hn => by
    have h31 : pcN 31 = 5 := by decide
    rcases bk_or s nt n (by omega) with ⟨h1, h2⟩ | ⟨r, h1, h2, h0, h3, h4, h5⟩
    · by_cases hp : pcN n < pcN 31 ∧ allB (brkB s n) nt = true
      · refine Or.inr ⟨n, by omega, ?_, by omega, hp.2, fun x hx hxp => ?_, fun x hx hxp => ?_⟩
        · rw [brkV, h1, if_pos ⟨(bc_lt (by omega) (by decide)).mpr hp.1, hp.2⟩]
        · by_cases hxn : x = n
          · rw [hxn]; exact Nat.le_refl _
          · have := h2 x (by omega) hxp; omega
        · have := h2 x hx hxp; omega
      · refine Or.inl ⟨?_, fun x hx hxp => ?_⟩
        · rw [brkV, h1, if_neg (fun z => hp ⟨(bc_lt (by omega) (by decide)).mp z.1, z.2⟩)]
        · by_cases hxn : x = n
          · subst hxn
            rcases Nat.lt_or_ge (pcN x) 5 with h | h
            · exact absurd ⟨by omega, hxp⟩ hp
            · exact h
          · exact h2 x (by omega) hxp
    · by_cases hp : pcN n < pcN r ∧ allB (brkB s n) nt = true
      · refine Or.inr ⟨n, by omega, ?_, by omega, hp.2, fun x hx hxp => ?_, fun x hx hxp => ?_⟩
        · rw [brkV, h2, if_pos ⟨(bc_lt (by omega) (by omega)).mpr hp.1, hp.2⟩]
        · by_cases hxn : x = n
          · rw [hxn]; exact Nat.le_refl _
          · have := h4 x (by omega) hxp; omega
        · have := h4 x hx hxp; omega
      · refine Or.inr ⟨r, by omega, ?_, h0, h3, fun x hx hxp => ?_, h5⟩
        · rw [brkV, h2, if_neg (fun z => hp ⟨(bc_lt (by omega) (by omega)).mp z.1, z.2⟩)]
        · by_cases hxn : x = n
          · subst hxn
            rcases Nat.lt_or_ge (pcN x) (pcN r) with h | h
            · exact absurd ⟨h, hxp⟩ hp
            · exact h
          · exact h4 x (by omega) hxp
theorem allB_cg {p q : Nat → Bool} : ∀ {n : Nat}, (∀ k, k < n → p k = q k) → allB p n = allB q n
  | 0, _ => rfl
  | n + 1, h => by rw [allB, allB, allB_cg (fun k hk => h k (by omega)), h n (by omega)]
theorem allB_all {p : Nat → Bool} : ∀ {n : Nat}, (∀ k, k < n → p k = true) → allB p n = true
  | 0, _ => rfl
  | n + 1, h => by rw [allB, allB_all (fun k hk => h k (by omega)), h n (by omega)]; rfl
/-- of a treaty that holds, who sealed its deeds -/
theorem held_by {V : Nat → Nat → Int32} {nc nd nt k : Nat} (h6 : nd ≤ 6) (hI : SI V nc nd nt) (hk : k < nt) (h : heldB V k = true) : ∃ e1 e2 c1 c2, (e1 < nd ∧ V 21 (2 * k) = nI e1) ∧ (e2 < nd ∧ V 21 (2 * k + 1) = nI e2) ∧ (c1 < nc ∧ V 11 (33 + e1) = nI c1) ∧ (c2 < nc ∧ V 11 (33 + e2) = nI c2) ∧ c1 ≠ c2 := by
  obtain ⟨e1, he1, h1⟩ := hI.2 k hk 0 (by decide)
  obtain ⟨e2, he2, h2⟩ := hI.2 k hk 1 (by decide)
  rw [Nat.add_zero] at h1
  unfold heldB at h
  simp only [Bool.and_eq_true, Bool.not_eq_true', decide_eq_false_iff_not] at h
  obtain ⟨g1, g2, g3⟩ := h
  rw [h1, nI_c (by omega)] at g1
  rw [h2, nI_c (by omega)] at g2
  rw [h1, h2, nI_c (by omega), nI_c (by omega)] at g3
  obtain ⟨c1, hc1, q1⟩ := hI.sl he1 g1
  obtain ⟨c2, hc2, q2⟩ := hI.sl he2 g2
  exact ⟨e1, e2, c1, c2, ⟨he1, h1⟩, ⟨he2, h2⟩, ⟨hc1, q1⟩, ⟨hc2, q2⟩, fun z => g3 (by rw [q1, q2, z])⟩
theorem brk_eq {V : Nat → Nat → Int32} {nc nd nt k : Nat} (h5 : nc ≤ 5) (h6 : nd ≤ 6) (hI : SI V nc nd nt) (hk : k < nt) (h : heldB V k = true) : ∃ e1 e2 c1 c2, (e1 < nd ∧ V 21 (2 * k) = nI e1) ∧ (e2 < nd ∧ V 21 (2 * k + 1) = nI e2) ∧ (c1 < nc ∧ V 11 (33 + e1) = nI c1) ∧ (c2 < nc ∧ V 11 (33 + e2) = nI c2) ∧ c1 ≠ c2 ∧ ∀ S, brkB V S k = (S.testBit c1 || S.testBit c2) := by
  obtain ⟨e1, e2, c1, c2, ⟨a1, a2⟩, ⟨b1, b2⟩, ⟨d1, d2⟩, ⟨f1, f2⟩, g⟩ := held_by h6 hI hk h
  refine ⟨e1, e2, c1, c2, ⟨a1, a2⟩, ⟨b1, b2⟩, ⟨d1, d2⟩, ⟨f1, f2⟩, g, fun S => ?_⟩
  unfold brkB
  rw [h, a2, b2, nI_c (by omega), nI_c (by omega), d2, f2, hbF_nI S (by omega), hbF_nI S (by omega)]
  rfl
theorem pc_mod : ∀ n, n ≤ 5 → ∀ x, x < 32 → pcN (x % 2 ^ n) ≤ pcN x := by decide +kernel
theorem w_brk : ∀ n, n ≤ 5 → ∀ a, a < n → ∀ b, b < n → a ≠ b → ((min (2 ^ n - 1) 15).testBit a || (min (2 ^ n - 1) 15).testBit b) = true := by decide +kernel
theorem w_pc : ∀ n, n ≤ 5 → pcN (min (2 ^ n - 1) 15) < 5 ∧ min (2 ^ n - 1) 15 < 2 ^ n ∧ 2 ^ n ≤ 32 := by decide +kernel
theorem rb_brk {V : Nat → Nat → Int32} {nc nd nt : Nat} (h5 : nc ≤ 5) (h6 : nd ≤ 6) (hI : SI V nc nd nt) : ∃ r, r < 32 ∧ brkV V nt 32 = r ∧ rbV (fun x => allB (brkB V x) nt) (2 ^ nc) = nI r := by
  obtain ⟨p1, p2, p3⟩ := w_pc nc h5
  have hmod : ∀ x, allB (brkB V (x % 2 ^ nc)) nt = allB (brkB V x) nt := fun x => allB_cg (fun k hk => by
    cases hh : heldB V k
    · unfold brkB; rw [hh]; rfl
    · obtain ⟨e1, e2, c1, c2, -, -, ⟨d1, -⟩, ⟨f1, -⟩, -, q⟩ := brk_eq h5 h6 hI hk hh
      rw [q, q, Nat.testBit_mod_two_pow, Nat.testBit_mod_two_pow, decide_eq_true d1, decide_eq_true f1, Bool.true_and, Bool.true_and])
  have hw : allB (brkB V (min (2 ^ nc - 1) 15)) nt = true := allB_all (fun k hk => by
    cases hh : heldB V k
    · unfold brkB; rw [hh]; rfl
    · obtain ⟨e1, e2, c1, c2, -, -, ⟨d1, -⟩, ⟨f1, -⟩, g, q⟩ := brk_eq h5 h6 hI hk hh
      rw [q]
      exact w_brk nc h5 c1 d1 c2 f1 g)
  rcases rb_or (fun x => allB (brkB V x) nt) (2 ^ nc) p3 with ⟨a1, a2⟩ | ⟨r, a1, a2, a3, a4, a5⟩
  · have := a2 _ p2
    rw [hw] at this; cases this
  · rcases bk_or V nt 32 (by decide) with ⟨b1, b2⟩ | ⟨f, b1, b2, b3, b4, b5, b6⟩
    · have := b2 _ (Nat.lt_of_lt_of_le p2 p3) hw
      omega
    · refine ⟨f, b1, b2, ?_⟩
      rw [a2]
      have q1 : pcN r ≤ pcN f := by
        have h1 := a4 (f % 2 ^ nc) (Nat.mod_lt _ (Nat.two_pow_pos nc)) (by rw [hmod]; exact b4)
        have h2 := pc_mod nc h5 f b1
        omega
      have q2 : pcN f ≤ pcN r := b5 r (by omega) a3
      congr 1
      rcases Nat.lt_trichotomy r f with h | h | h
      · have := b6 r h a3; omega
      · exact h
      · have := a5 f h b4; omega
theorem and_or0 : ∀ S, S < 32 → ∀ a, a < 5 → ∀ b, b < 5 → (S &&& (2 ^ a ||| 2 ^ b) = 0 ↔ (S.testBit a || S.testBit b) = false) := by decide +kernel
section
variable (d : Nat) (fm : Value) (X : Nat × (Nat → Int32)) (s T : Nat → Nat → Int32) (t : Nat → Nat → Int64)
variable {lv nc nd nt : Nat} {PT PG PB PF : List (List Ins)}
theorem t_Mo_breaks (hC : RC s lv T nc nd nt PT PG PB PF) (hQ : QI (vR T nc nd (s 114)) nc nd nt) (w : Int32) : ab_T g_Mo_breaks (d + 1) (0, 0) [.ref 81, .int w] (HA fm X s t) (PR w4 (if w = 0 ∨ w = 1 then (if w = 0 then bcF (nI (brkV (vR T nc nd (s 114)) nt 32)) else nI (brkV (vR T nc nd (s 114)) nt 32)) else -1) fm X s t) := by
  have h5 := hC.1.2.2.1.2
  have h6 := hC.1.2.2.2.1.2
  have ht6 := hC.1.2.2.2.2.1.2
  have hlv := hC.1.2.1
  refine ab_T_of (M := m_Mo_breaks) rfl rfl (Nat.le_of_ble_eq_true rfl) ?_
  show ab_Z m_Mo_breaks _ _ _ 0 [_, _, _, _, _, _, _] [] _
  refine ab_go ok_Mo_breaks 3 rfl ?_
  show ab_Z m_Mo_breaks _ _ _ 3 [_, _, _, _, _, _, _] [_, _, _] _
  refine ab_cl ok_Mo_breaks rfl [_, _, _] [] rfl rfl (Nat.le_of_ble_eq_true rfl) (t_Mo_in d _ w 0 1) ?_
  rintro _ _ ⟨rfl, rfl⟩
  show ab_Z m_Mo_breaks _ _ _ 4 [_, _, _, _, _, _, _] [_] _
  rw [bI_c (in01 w)]
  refine ab_br ok_Mo_breaks rfl rfl ?_ ?_
  · intro h1
    show ab_Z m_Mo_breaks _ _ _ 5 [_, _, _, _, _, _, _] [] _
    refine ab_go ok_Mo_breaks 1 rfl ?_
    show ab_Z m_Mo_breaks _ _ _ 6 [_, _, _, _, _, _, _] [_] _
    exact ab_rI ok_Mo_breaks rfl (⟨by rw [if_neg (bI_0.mp h1)], s, rfl, Kr.rf w4 s⟩)
  · intro h1
    show ab_Z m_Mo_breaks _ _ _ 7 [_, _, _, _, _, _, _] [] _
    have hw := bI_n0 h1
    rw [if_pos hw]
    refine ab_go ok_Mo_breaks 1 rfl ?_
    show ab_Z m_Mo_breaks _ _ _ 8 [_, _, _, _, _, _, _] [_] _
    refine ab_cl ok_Mo_breaks rfl [_] [] rfl ⟨_, _, rfl, rfl, Or.inl ⟨_, _, rfl, rfl⟩⟩ (Nat.le_of_ble_eq_true rfl) (t_Mo_copies' d fm X s T t hC) ?_
    rintro _ _ ⟨rfl, s1, rfl, k1, hC1, hv1, hl1, h40⟩
    show ab_Z m_Mo_breaks _ _ _ 9 [_, _, _, _, _, _, _] [] _
    rw [← hv1] at hQ ⊢
    obtain ⟨V, hVV⟩ : ∃ V, V = vR T nc nd (s1 115) := ⟨_, rfl⟩
    rw [← hVV] at hQ ⊢
    obtain ⟨r, hr, hb, hrb⟩ := rb_brk h5 h6 hQ.1
    rw [hb]
    obtain ⟨P, hP⟩ : ∃ P : Nat → Bool, P = fun x => allB (brkB V x) nt := ⟨_, rfl⟩
    rw [← hP] at hrb
    have h32 := (w_pc nc h5).2.2
    generalize hPo : PR w4 (if w = 0 then bcF (nI r) else nI r) fm X s t = Po
    refine ab_go ok_Mo_breaks 4 rfl ?_
    show ab_Z m_Mo_breaks _ _ _ 13 [_, _, _, _, _, _, _] [] _
    refine lp_dn (2 ^ nc) (fun S => ab_Z m_Mo_breaks (d + 1) (0, 0) Po 13 [some (.ref 81), some (.int w), some (.int (rbV P S)), some (.int (nI S)), none, none, none] [] (HA fm X s1 t)) ?_ ?_
    · refine ab_go ok_Mo_breaks 6 rfl ?_
      show ab_Z m_Mo_breaks _ _ _ 19 [_, _, _, _, _, _, _] [_, _, _, _] _
      rw [hC1.1.1]
      refine ab_ia ok_Mo_breaks rfl rfl (k := lv) (by first | rfl | (simp only [LL1, LL2, LL3, LL4, LL5, LL6, LL7, LL8, LL10, LL15, LL18, LL20, LL21, LL22, LL23, LL24, LL32, LL39, LL40, LL130, LL420, pk_mul, nI_add]; done) | (simp only [LL1, LL2, LL3, LL4, LL5, LL6, LL7, LL8, LL10, LL15, LL18, LL20, LL21, LL22, LL23, LL24, LL32, LL39, LL40, LL130, LL420, pk_mul, nI_add]; congr 1; omega)) (by omega) (Nat.le_of_ble_eq_true rfl) ?_
      show ab_Z m_Mo_breaks _ _ _ 20 [_, _, _, _, _, _, _] [_, _, _] _
      rw [hC1.1.2.2.1.1]
      refine ab_go ok_Mo_breaks 1 rfl ?_
      show ab_Z m_Mo_breaks _ _ _ 21 [_, _, _, _, _, _, _] [_, _] _
      rw [shl_le5 nc h5, hrb]
      refine ab_br ok_Mo_breaks rfl rfl ?_ ?_
      · intro h2
        show ab_Z m_Mo_breaks _ _ _ 93 [_, _, _, _, _, _, _] [] _
        refine ab_go ok_Mo_breaks 1 rfl ?_
        show ab_Z m_Mo_breaks _ _ _ 94 [_, _, _, _, _, _, _] [_] _
        refine ab_br ok_Mo_breaks rfl rfl ?_ ?_
        · intro h3
          show ab_Z m_Mo_breaks _ _ _ 95 [_, _, _, _, _, _, _] [] _
          have h3' : w = 0 := h3
          refine ab_go ok_Mo_breaks 1 rfl ?_
          show ab_Z m_Mo_breaks _ _ _ 96 [_, _, _, _, _, _, _] [_] _
          refine ab_cl ok_Mo_breaks rfl [_] [] rfl rfl (Nat.le_of_ble_eq_true rfl) (t_Mo_bits d _ (show r < 64 by omega)) ?_
          rintro _ _ ⟨rfl, rfl⟩
          show ab_Z m_Mo_breaks _ _ _ 97 [_, _, _, _, _, _, _] [_] _
          refine ab_go ok_Mo_breaks 1 rfl ?_
          show ab_Z m_Mo_breaks _ _ _ 99 [_, _, _, _, _, _, _] [_] _
          have fin : Po (some (.int (bcF (nI r)))) (HA fm X s1 t) := by
            rw [← hPo, if_pos h3']
            exact ⟨rfl, s1, rfl, k1.m34⟩
          exact ab_rI ok_Mo_breaks rfl (fin)
        · intro h3
          show ab_Z m_Mo_breaks _ _ _ 98 [_, _, _, _, _, _, _] [] _
          have h3' : ¬ w = 0 := h3
          refine ab_go ok_Mo_breaks 1 rfl ?_
          show ab_Z m_Mo_breaks _ _ _ 99 [_, _, _, _, _, _, _] [_] _
          have fin : Po (some (.int (nI r))) (HA fm X s1 t) := by
            rw [← hPo, if_neg h3']
            exact ⟨rfl, s1, rfl, k1.m34⟩
          exact ab_rI ok_Mo_breaks rfl (fin)
      · intro h2
        show ab_Z m_Mo_breaks _ _ _ 22 [_, _, _, _, _, _, _] [] _
        exact absurd (lp_out _) h2
    · intro S hS ih
      rw [rbV, nI_succ S] at ih
      refine ab_go ok_Mo_breaks 6 rfl ?_
      show ab_Z m_Mo_breaks _ _ _ 19 [_, _, _, _, _, _, _] [_, _, _, _] _
      rw [hC1.1.1]
      refine ab_ia ok_Mo_breaks rfl rfl (k := lv) (by first | rfl | (simp only [LL1, LL2, LL3, LL4, LL5, LL6, LL7, LL8, LL10, LL15, LL18, LL20, LL21, LL22, LL23, LL24, LL32, LL39, LL40, LL130, LL420, pk_mul, nI_add]; done) | (simp only [LL1, LL2, LL3, LL4, LL5, LL6, LL7, LL8, LL10, LL15, LL18, LL20, LL21, LL22, LL23, LL24, LL32, LL39, LL40, LL130, LL420, pk_mul, nI_add]; congr 1; omega)) (by omega) (Nat.le_of_ble_eq_true rfl) ?_
      show ab_Z m_Mo_breaks _ _ _ 20 [_, _, _, _, _, _, _] [_, _, _] _
      rw [hC1.1.2.2.1.1]
      refine ab_go ok_Mo_breaks 1 rfl ?_
      show ab_Z m_Mo_breaks _ _ _ 21 [_, _, _, _, _, _, _] [_, _] _
      rw [shl_le5 nc h5]
      refine ab_br ok_Mo_breaks rfl rfl ?_ ?_
      · intro h2
        show ab_Z m_Mo_breaks _ _ _ 93 [_, _, _, _, _, _, _] [] _
        exact absurd h2 (lp_in (by omega) hS)
      · intro h2
        show ab_Z m_Mo_breaks _ _ _ 22 [_, _, _, _, _, _, _] [] _
        refine ab_go ok_Mo_breaks 4 rfl ?_
        show ab_Z m_Mo_breaks _ _ _ 26 [_, _, _, _, _, _, _] [] _
        refine lp_dn nt (fun k => ab_Z m_Mo_breaks (d + 1) (0, 0) Po 26 [some (.ref 81), some (.int w), some (.int (rbV P S)), some (.int (nI S)), some (.int (bB (allB (brkB V S) k))), some (.int (nI k)), none] [] (HA fm X s1 t)) ?_ ?_
        · refine ab_go ok_Mo_breaks 5 rfl ?_
          show ab_Z m_Mo_breaks _ _ _ 31 [_, _, _, _, _, _, _] [_, _, _] _
          rw [hC1.1.1]
          refine ab_ia ok_Mo_breaks rfl rfl (k := lv) (by first | rfl | (simp only [LL1, LL2, LL3, LL4, LL5, LL6, LL7, LL8, LL10, LL15, LL18, LL20, LL21, LL22, LL23, LL24, LL32, LL39, LL40, LL130, LL420, pk_mul, nI_add]; done) | (simp only [LL1, LL2, LL3, LL4, LL5, LL6, LL7, LL8, LL10, LL15, LL18, LL20, LL21, LL22, LL23, LL24, LL32, LL39, LL40, LL130, LL420, pk_mul, nI_add]; congr 1; omega)) (by omega) (Nat.le_of_ble_eq_true rfl) ?_
          show ab_Z m_Mo_breaks _ _ _ 32 [_, _, _, _, _, _, _] [_, _] _
          rw [hC1.1.2.2.2.2.1.1]
          refine ab_br ok_Mo_breaks rfl rfl ?_ ?_
          · intro h3
            show ab_Z m_Mo_breaks _ _ _ 80 [_, _, _, _, _, _, _] [] _
            have hPS : P S = allB (brkB V S) nt := by rw [hP]
            refine ab_go ok_Mo_breaks 1 rfl ?_
            show ab_Z m_Mo_breaks _ _ _ 81 [_, _, _, _, _, _, _] [_] _
            refine ab_br ok_Mo_breaks rfl rfl ?_ ?_
            · intro h4
              show ab_Z m_Mo_breaks _ _ _ 91 [_, _, _, _, _, _, _] [] _
              have h4' := bB_0.mp h4
              rw [if_neg (fun z => by rw [hPS, h4'] at z; exact absurd z.1 (by decide))] at ih
              refine ab_go ok_Mo_breaks 2 rfl ?_
              show ab_Z m_Mo_breaks _ _ _ 13 [_, _, _, _, _, _, _] [] _
              exact ih
            · intro h4
              show ab_Z m_Mo_breaks _ _ _ 82 [_, _, _, _, _, _, _] [] _
              have h4' : P S = true := by rw [hPS]; exact bB_n0 h4
              refine ab_go ok_Mo_breaks 1 rfl ?_
              show ab_Z m_Mo_breaks _ _ _ 83 [_, _, _, _, _, _, _] [_] _
              rcases rb_or P S (by omega) with ⟨a1, -⟩ | ⟨q, a1, a2, -⟩
              · rw [a1] at ih ⊢
                rw [if_pos ⟨h4', Or.inl (by decide)⟩] at ih
                refine ab_go ok_Mo_breaks 1 rfl ?_
                show ab_Z m_Mo_breaks _ _ _ 89 [_, _, _, _, _, _, _] [] _
                refine ab_go ok_Mo_breaks 4 rfl ?_
                show ab_Z m_Mo_breaks _ _ _ 13 [_, _, _, _, _, _, _] [] _
                exact ih
              · rw [a2] at ih ⊢
                refine ab_br ok_Mo_breaks rfl rfl ?_ ?_
                · intro h7
                  show ab_Z m_Mo_breaks _ _ _ 89 [_, _, _, _, _, _, _] [] _
                  exact absurd h7 (nI_l0 (by omega))
                · intro h7
                  show ab_Z m_Mo_breaks _ _ _ 84 [_, _, _, _, _, _, _] [] _
                  refine ab_go ok_Mo_breaks 1 rfl ?_
                  show ab_Z m_Mo_breaks _ _ _ 85 [_, _, _, _, _, _, _] [_] _
                  refine ab_cl ok_Mo_breaks rfl [_] [] rfl rfl (Nat.le_of_ble_eq_true rfl) (t_Mo_bits d _ (show S < 64 by omega)) ?_
                  rintro _ _ ⟨rfl, rfl⟩
                  show ab_Z m_Mo_breaks _ _ _ 86 [_, _, _, _, _, _, _] [_] _
                  refine ab_go ok_Mo_breaks 1 rfl ?_
                  show ab_Z m_Mo_breaks _ _ _ 87 [_, _, _, _, _, _, _] [_, _] _
                  refine ab_cl ok_Mo_breaks rfl [_] [_] rfl rfl (Nat.le_of_ble_eq_true rfl) (t_Mo_bits d _ (show q < 64 by omega)) ?_
                  rintro _ _ ⟨rfl, rfl⟩
                  show ab_Z m_Mo_breaks _ _ _ 88 [_, _, _, _, _, _, _] [_, _] _
                  refine ab_br ok_Mo_breaks rfl rfl ?_ ?_
                  · intro h8
                    show ab_Z m_Mo_breaks _ _ _ 91 [_, _, _, _, _, _, _] [] _
                    rw [if_neg (fun z => z.2.elim (fun y => nI_l0 (by omega) y) (fun y => by have := i_lt y; have := i_le h8; omega))] at ih
                    refine ab_go ok_Mo_breaks 2 rfl ?_
                    show ab_Z m_Mo_breaks _ _ _ 13 [_, _, _, _, _, _, _] [] _
                    exact ih
                  · intro h8
                    show ab_Z m_Mo_breaks _ _ _ 89 [_, _, _, _, _, _, _] [] _
                    rw [if_pos ⟨h4', Or.inr (Int32.lt_iff_toInt_lt.mpr (i_nle h8))⟩] at ih
                    refine ab_go ok_Mo_breaks 4 rfl ?_
                    show ab_Z m_Mo_breaks _ _ _ 13 [_, _, _, _, _, _, _] [] _
                    exact ih
          · intro h3
            show ab_Z m_Mo_breaks _ _ _ 33 [_, _, _, _, _, _, _] [] _
            exact absurd (lp_out nt) h3
        · intro k hk ihk
          rw [nI_succ k] at ihk
          refine ab_go ok_Mo_breaks 5 rfl ?_
          show ab_Z m_Mo_breaks _ _ _ 31 [_, _, _, _, _, _, _] [_, _, _] _
          rw [hC1.1.1]
          refine ab_ia ok_Mo_breaks rfl rfl (k := lv) (by first | rfl | (simp only [LL1, LL2, LL3, LL4, LL5, LL6, LL7, LL8, LL10, LL15, LL18, LL20, LL21, LL22, LL23, LL24, LL32, LL39, LL40, LL130, LL420, pk_mul, nI_add]; done) | (simp only [LL1, LL2, LL3, LL4, LL5, LL6, LL7, LL8, LL10, LL15, LL18, LL20, LL21, LL22, LL23, LL24, LL32, LL39, LL40, LL130, LL420, pk_mul, nI_add]; congr 1; omega)) (by omega) (Nat.le_of_ble_eq_true rfl) ?_
          show ab_Z m_Mo_breaks _ _ _ 32 [_, _, _, _, _, _, _] [_, _] _
          rw [hC1.1.2.2.2.2.1.1]
          refine ab_br ok_Mo_breaks rfl rfl ?_ ?_
          · intro h3
            show ab_Z m_Mo_breaks _ _ _ 80 [_, _, _, _, _, _, _] [] _
            exact absurd h3 (lp_in (by omega) hk)
          · intro h3
            show ab_Z m_Mo_breaks _ _ _ 33 [_, _, _, _, _, _, _] [] _
            refine ab_go ok_Mo_breaks 2 rfl ?_
            show ab_Z m_Mo_breaks _ _ _ 35 [_, _, _, _, _, _, _] [_, _] _
            refine ab_cl ok_Mo_breaks rfl [_, _] [] rfl ⟨_, _, rfl, rfl, Or.inl ⟨_, _, rfl, rfl⟩⟩ (Nat.le_of_ble_eq_true rfl) (t_Mo_doesHold d fm X s1 T t hC1 (by rw [← hVV]; exact hQ.1) hk) ?_
            rintro _ _ ⟨rfl, rfl⟩
            show ab_Z m_Mo_breaks _ _ _ 36 [_, _, _, _, _, _, _] [_] _
            rw [← hVV]
            refine ab_br ok_Mo_breaks rfl rfl ?_ ?_
            · intro h4
              show ab_Z m_Mo_breaks _ _ _ 37 [_, _, _, _, _, _, _] [] _
              have h4' := bB_0.mp h4
              rw [allB, show brkB V S k = true from by unfold brkB; rw [h4']; rfl, Bool.and_true] at ihk
              refine ab_go ok_Mo_breaks 3 rfl ?_
              show ab_Z m_Mo_breaks _ _ _ 26 [_, _, _, _, _, _, _] [] _
              exact ihk
            · intro h4
              show ab_Z m_Mo_breaks _ _ _ 38 [_, _, _, _, _, _, _] [] _
              obtain ⟨e1, e2, c1, c2, ⟨a1, a2⟩, ⟨b1, b2⟩, ⟨d1, d2⟩, ⟨f1, f2⟩, -, q⟩ := brk_eq h5 h6 hQ.1 hk (bB_n0 h4)
              have t1 : s1 98 (6 * lv + k) = nI e1 := by rw [(hC1.1.2.2.2.2.2.2.2.2.2.1 k hk).1, ← a2, hVV, vR_o (by decide)]
              have t2 : s1 99 (6 * lv + k) = nI e2 := by rw [(hC1.1.2.2.2.2.2.2.2.2.2.1 k hk).2, ← b2, hVV, vR_o (by decide)]
              have u1 : s1 115 (15 + e1) = nI c1 := by rw [← d2, hVV, vR_s h5 h6 a1]
              have u2 : s1 115 (15 + e2) = nI c2 := by rw [← f2, hVV, vR_s h5 h6 b1]
              refine ab_go ok_Mo_breaks 12 rfl ?_
              show ab_Z m_Mo_breaks _ _ _ 50 [_, _, _, _, _, _, _] [_, _, _, _, _] _
              rw [hC1.1.1]
              refine ab_ia ok_Mo_breaks rfl rfl (k := (6 * lv + k)) (by first | rfl | (simp only [LL1, LL2, LL3, LL4, LL5, LL6, LL7, LL8, LL10, LL15, LL18, LL20, LL21, LL22, LL23, LL24, LL32, LL39, LL40, LL130, LL420, pk_mul, nI_add]; done) | (simp only [LL1, LL2, LL3, LL4, LL5, LL6, LL7, LL8, LL10, LL15, LL18, LL20, LL21, LL22, LL23, LL24, LL32, LL39, LL40, LL130, LL420, pk_mul, nI_add]; congr 1; omega)) (by omega) (Nat.le_of_ble_eq_true rfl) ?_
              show ab_Z m_Mo_breaks _ _ _ 51 [_, _, _, _, _, _, _] [_, _, _, _] _
              rw [t1]
              refine ab_go ok_Mo_breaks 1 rfl ?_
              show ab_Z m_Mo_breaks _ _ _ 52 [_, _, _, _, _, _, _] [_, _, _] _
              refine ab_ia ok_Mo_breaks rfl rfl (k := (15 + e1)) (by first | rfl | (simp only [LL1, LL2, LL3, LL4, LL5, LL6, LL7, LL8, LL10, LL15, LL18, LL20, LL21, LL22, LL23, LL24, LL32, LL39, LL40, LL130, LL420, pk_mul, nI_add]; done) | (simp only [LL1, LL2, LL3, LL4, LL5, LL6, LL7, LL8, LL10, LL15, LL18, LL20, LL21, LL22, LL23, LL24, LL32, LL39, LL40, LL130, LL420, pk_mul, nI_add]; congr 1; omega)) (by omega) (Nat.le_of_ble_eq_true rfl) ?_
              show ab_Z m_Mo_breaks _ _ _ 53 [_, _, _, _, _, _, _] [_, _] _
              rw [u1]
              refine ab_go ok_Mo_breaks 13 rfl ?_
              show ab_Z m_Mo_breaks _ _ _ 66 [_, _, _, _, _, _, _] [_, _, _, _, _, _] _
              rw [hC1.1.1]
              refine ab_ia ok_Mo_breaks rfl rfl (k := (6 * lv + k)) (by first | rfl | (simp only [LL1, LL2, LL3, LL4, LL5, LL6, LL7, LL8, LL10, LL15, LL18, LL20, LL21, LL22, LL23, LL24, LL32, LL39, LL40, LL130, LL420, pk_mul, nI_add]; done) | (simp only [LL1, LL2, LL3, LL4, LL5, LL6, LL7, LL8, LL10, LL15, LL18, LL20, LL21, LL22, LL23, LL24, LL32, LL39, LL40, LL130, LL420, pk_mul, nI_add]; congr 1; omega)) (by omega) (Nat.le_of_ble_eq_true rfl) ?_
              show ab_Z m_Mo_breaks _ _ _ 67 [_, _, _, _, _, _, _] [_, _, _, _, _] _
              rw [t2]
              refine ab_go ok_Mo_breaks 1 rfl ?_
              show ab_Z m_Mo_breaks _ _ _ 68 [_, _, _, _, _, _, _] [_, _, _, _] _
              refine ab_ia ok_Mo_breaks rfl rfl (k := (15 + e2)) (by first | rfl | (simp only [LL1, LL2, LL3, LL4, LL5, LL6, LL7, LL8, LL10, LL15, LL18, LL20, LL21, LL22, LL23, LL24, LL32, LL39, LL40, LL130, LL420, pk_mul, nI_add]; done) | (simp only [LL1, LL2, LL3, LL4, LL5, LL6, LL7, LL8, LL10, LL15, LL18, LL20, LL21, LL22, LL23, LL24, LL32, LL39, LL40, LL130, LL420, pk_mul, nI_add]; congr 1; omega)) (by omega) (Nat.le_of_ble_eq_true rfl) ?_
              show ab_Z m_Mo_breaks _ _ _ 69 [_, _, _, _, _, _, _] [_, _, _] _
              rw [u2]
              refine ab_go ok_Mo_breaks 6 rfl ?_
              show ab_Z m_Mo_breaks _ _ _ 75 [_, _, _, _, _, _, _] [_] _
              rw [nI_shl c1 (by omega), nI_shl c2 (by omega), nI_or, nI_and]
              rw [allB, q S] at ihk
              have hao := and_or0 S (by omega) c1 (by omega) c2 (by omega)
              have hlt : S &&& (2 ^ c1 ||| 2 ^ c2) < 64 := Nat.lt_of_le_of_lt Nat.and_le_left (by omega)
              refine ab_br ok_Mo_breaks rfl rfl ?_ ?_
              · intro h7
                show ab_Z m_Mo_breaks _ _ _ 76 [_, _, _, _, _, _, _] [] _
                rw [hao.mp ((nI_z (by omega)).mp h7), Bool.and_false] at ihk
                refine ab_go ok_Mo_breaks 4 rfl ?_
                show ab_Z m_Mo_breaks _ _ _ 26 [_, _, _, _, _, _, _] [] _
                exact ihk
              · intro h7
                show ab_Z m_Mo_breaks _ _ _ 78 [_, _, _, _, _, _, _] [] _
                have h7' : (S.testBit c1 || S.testBit c2) = true := by
                  cases hx : (S.testBit c1 || S.testBit c2)
                  · exact absurd (by rw [hao.mpr hx]; rfl) h7
                  · rfl
                rw [h7', Bool.and_true] at ihk
                refine ab_go ok_Mo_breaks 2 rfl ?_
                show ab_Z m_Mo_breaks _ _ _ 26 [_, _, _, _, _, _, _] [] _
                exact ihk
end

