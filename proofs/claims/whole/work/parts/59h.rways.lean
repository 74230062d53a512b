/-! the reference: ways gone through -/
theorem st_sk {V : Nat → Nat → Int32} {PT : List (List Ins)} {nd e : Nat} {D : Nat → Nat} : ∀ {e1 : Nat}, e ≤ e1 → (∀ j, e ≤ j → j < e1 → D j = 0) → stD V PT nd D e1 = stD V PT nd D e ∧ okD V PT nd D e1 = okD V PT nd D e
  | 0, h, _ => by rw [Nat.le_zero.mp h]; exact ⟨rfl, rfl⟩
  | e1 + 1, h, hn => by
    rcases Nat.lt_or_ge e1 e with h2 | h2
    · rw [show e = e1 + 1 by omega]; exact ⟨rfl, rfl⟩
    · have h0 := hn e1 h2 (by omega)
      obtain ⟨a, b⟩ := st_sk (V := V) (PT := PT) (nd := nd) h2 (fun j a b => hn j a (by omega))
      rw [stD, okD, if_pos h0, decide_eq_true h0, Bool.true_or, Bool.and_true]
      exact ⟨a, b⟩
theorem ok_no {V : Nat → Nat → Int32} {PT : List (List Ins)} {nd e : Nat} {D : Nat → Nat} (h : okD V PT nd D e = false) : ∀ {e1 : Nat}, e ≤ e1 → okD V PT nd D e1 = false
  | 0, h1 => by rw [Nat.le_zero.mp h1] at h; exact h
  | e1 + 1, h1 => by
    rcases Nat.lt_or_ge e1 e with h2 | h2
    · rw [show e = e1 + 1 by omega] at h; exact h
    · rw [okD, ok_no h h2, Bool.false_and]
theorem st_cg {V : Nat → Nat → Int32} {PT : List (List Ins)} {nd : Nat} {D D' : Nat → Nat} : ∀ {e : Nat}, (∀ j, j < e → D j = D' j) → stD V PT nd D e = stD V PT nd D' e ∧ okD V PT nd D e = okD V PT nd D' e
  | 0, _ => ⟨rfl, rfl⟩
  | e + 1, h => by
    obtain ⟨a, b⟩ := st_cg (V := V) (PT := PT) (nd := nd) (e := e) (fun j hj => h j (by omega))
    rw [stD, stD, okD, okD, a, b, h e (by omega)]
    exact ⟨rfl, rfl⟩
/-- the plan that a way tells; k0 is 0 where a deed may be left open, else 1 -/
def wyP (p : Nat → Bool) (nd base om k0 w : Nat) : Nat → Nat := fun e => if e < nd ∧ p e = true then wyG p base om w e + k0 else 0
section
variable (d : Nat) (fm : Value) (X : Nat × (Nat → Int32)) (s T : Nat → Nat → Int32) (t : Nat → Nat → Int64)
variable {lv nc nd nt : Nat} {PT PG PB PF : List (List Ins)}
theorem t_Mo_power (h : ab_H) {b n : Nat} (hn : n ≤ 6) (x y : Int32) (hx : x = nI b) (hy : y = nI n) : ab_T g_Mo_power d (0, 0) [.int x, .int y] h (PI (nI (b ^ n)) h) := by
  subst hx hy
  refine ab_T_of (M := m_Mo_power) rfl rfl (Nat.le_of_ble_eq_true rfl) ?_
  show ab_Z m_Mo_power _ _ _ 0 [_, _, _, _] [] _
  refine ab_go ok_Mo_power 4 rfl ?_
  show ab_Z m_Mo_power _ _ _ 4 [_, _, _, _] [] _
  refine lp_dn n (fun k => ab_Z m_Mo_power d (0, 0) (PI (nI (b ^ n)) h) 4 [some (.int (nI b)), some (.int (nI n)), some (.int (nI (b ^ k))), some (.int (nI k))] [] h) ?_ ?_
  · refine ab_go ok_Mo_power 2 rfl ?_
    show ab_Z m_Mo_power _ _ _ 6 [_, _, _, _] [_, _] _
    refine ab_br ok_Mo_power rfl rfl ?_ ?_
    · intro h1
      show ab_Z m_Mo_power _ _ _ 13 [_, _, _, _] [] _
      refine ab_go ok_Mo_power 1 rfl ?_
      show ab_Z m_Mo_power _ _ _ 14 [_, _, _, _] [_] _
      exact ab_rI ok_Mo_power rfl (⟨rfl, rfl⟩)
    · intro h1
      show ab_Z m_Mo_power _ _ _ 7 [_, _, _, _] [] _
      exact absurd (lp_out n) h1
  · intro k hk ih
    rw [Nat.pow_succ, nI_succ k] at ih
    refine ab_go ok_Mo_power 2 rfl ?_
    show ab_Z m_Mo_power _ _ _ 6 [_, _, _, _] [_, _] _
    refine ab_br ok_Mo_power rfl rfl ?_ ?_
    · intro h1
      show ab_Z m_Mo_power _ _ _ 13 [_, _, _, _] [] _
      exact absurd h1 (lp_in (by omega) hk)
    · intro h1
      show ab_Z m_Mo_power _ _ _ 7 [_, _, _, _] [] _
      refine ab_go ok_Mo_power 6 rfl ?_
      show ab_Z m_Mo_power _ _ _ 4 [_, _, _, _] [] _
      rw [pk_mul]
      exact ih
theorem t_Mo_goesBy (hC : RC s lv T nc nd nt PT PG PB PF) (V : Nat → Nat → Int32) (hV : V = vR T nc nd (s 114)) (p : Nat → Bool) (hp : p = openB V) (om : Nat) (hom : om = cntN p nd) (hOp : OpI s p nd) {base k0 w : Nat} (hb : base + k0 = nc + 1) (hk0 : k0 ≤ 1) (hw : w < base ^ om) (D : Nat → Nat) (hD : D = wyP p nd base om k0 w) : ab_T g_Mo_goesBy (d + 4) (0, 0) [.ref 81, .int (nI w), .int (nI base)] (HA fm X s t) (fun v h => ∃ s', h = HA fm X s' t ∧ Kr w3 s s' ∧ ((v = some (.int (nI (w + 1))) ∧ okD V PT nd D nd = true ∧ vR T nc nd (s' 115) = stD V PT nd D nd) ∨ ∃ e0, e0 < nd ∧ p e0 = true ∧ v = some (.int (-nI ((w / base ^ (om - 1 - cntN p e0) + 1) * base ^ (om - 1 - cntN p e0)))) ∧ okD V PT nd D (e0 + 1) = false)) := by
  have h5 := hC.1.2.2.1.2
  have h6 := hC.1.2.2.2.1.2
  have hlv := hC.1.2.1
  have hom6 : om ≤ 6 := by have := cnt_le p nd; omega
  have hb6 : base ≤ 6 := by omega
  have hw6 : w < 46656 := Nat.lt_of_lt_of_le hw (Nat.le_trans (Nat.pow_le_pow_left hb6 om) (Nat.pow_le_pow_right (by decide) hom6 : 6 ^ om ≤ 6 ^ 6))
  generalize hPo : (fun v h => ∃ s', h = HA fm X s' t ∧ Kr w3 s s' ∧ ((v = some (.int (nI (w + 1))) ∧ okD V PT nd D nd = true ∧ vR T nc nd (s' 115) = stD V PT nd D nd) ∨ ∃ e0, e0 < nd ∧ p e0 = true ∧ v = some (.int (-nI ((w / base ^ (om - 1 - cntN p e0) + 1) * base ^ (om - 1 - cntN p e0)))) ∧ okD V PT nd D (e0 + 1) = false) : Option Value → ab_H → Prop) = Po
  have hcl : ∀ e, p e = false → D e = 0 := fun e h => by rw [hD]; unfold wyP; rw [if_neg (fun z => by rw [h] at z; cases z.2)]
  refine ab_T_of (M := m_Mo_goesBy) rfl rfl (Nat.le_of_ble_eq_true rfl) ?_
  show ab_Z m_Mo_goesBy _ _ _ 0 [_, _, _, _, _, _] [] _
  refine ab_go ok_Mo_goesBy 1 rfl ?_
  show ab_Z m_Mo_goesBy _ _ _ 1 [_, _, _, _, _, _] [_] _
  refine ab_cl ok_Mo_goesBy rfl [_] [] rfl ⟨_, _, rfl, rfl, Or.inl ⟨_, _, rfl, rfl⟩⟩ (Nat.le_of_ble_eq_true rfl) (t_Mo_copies' (d + 3) fm X s T t hC) ?_
  rintro _ _ ⟨rfl, s1, rfl, k1, hC1, hv1, hl1, h40⟩
  show ab_Z m_Mo_goesBy _ _ _ 2 [_, _, _, _, _, _] [] _
  rw [← hV] at hv1
  refine ab_go ok_Mo_goesBy 2 rfl ?_
  show ab_Z m_Mo_goesBy _ _ _ 4 [_, _, _, _, _, _] [] _
  refine lp_dn om (fun k => ∀ e s2, e ≤ nd → cntN p e = k → Kr w3 s s2 → vR T nc nd (s2 115) = stD V PT nd D e → okD V PT nd D e = true → ab_Z m_Mo_goesBy (d + 4) (0, 0) Po 4 [some (.ref 81), some (.int (nI w)), some (.int (nI base)), some (.int (nI k)), none, none] [] (HA fm X s2 t)) ?_ ?_ 0 s1 (by omega) rfl k1 hv1 rfl
  · intro e s2 he hc k2 hv2 hok
    refine ab_go ok_Mo_goesBy 3 rfl ?_
    show ab_Z m_Mo_goesBy _ _ _ 7 [_, _, _, _, _, _] [_, _] _
    rw [show s2 81 59 = nI om from by rw [k2 81 59 rfl, hom]; exact hOp.1]
    refine ab_br ok_Mo_goesBy rfl rfl ?_ ?_
    · intro h1
      show ab_Z m_Mo_goesBy _ _ _ 60 [_, _, _, _, _, _] [] _
      refine ab_go ok_Mo_goesBy 3 rfl ?_
      show ab_Z m_Mo_goesBy _ _ _ 63 [_, _, _, _, _, _] [_] _
      obtain ⟨q1, q2⟩ := st_sk (V := V) (PT := PT) (nd := nd) (D := D) he (fun j a b => hcl j (cnt_eq_no (hc.trans hom) j a b))
      have fin : Po (some (.int (nI w + 1))) (HA fm X s2 t) := by
        rw [← hPo]
        exact ⟨s2, rfl, k2, Or.inl ⟨by rw [nI_succ], by rw [q2]; exact hok, by rw [q1]; exact hv2⟩⟩
      exact ab_rI ok_Mo_goesBy rfl (fin)
    · intro h1
      show ab_Z m_Mo_goesBy _ _ _ 8 [_, _, _, _, _, _] [] _
      exact absurd (lp_out om) h1
  · intro k hk ih e s2 he hc k2 hv2 hok
    have hC2 := hC.k k2.m34
    obtain ⟨e0, he0, hp0, hc0⟩ := cnt_at p (show k < cntN p nd by omega)
    have hee : e ≤ e0 := by
      rcases Nat.lt_or_ge e0 e with h | h
      · have := cnt_lt hp0 h; omega
      · exact h
    obtain ⟨q1, q2⟩ := st_sk (V := V) (PT := PT) (nd := nd) (D := D) hee (fun j a b => hcl j (cnt_eq_no (hc.trans hc0.symm) j a b))
    rw [← q1] at hv2
    rw [← q2] at hok
    have hbp : 0 < base := by
      rcases Nat.eq_zero_or_pos base with h | h
      · rw [h, Nat.zero_pow (by omega)] at hw; omega
      · exact h
    obtain ⟨sz, hsz⟩ : ∃ sz, sz = base ^ (om - 1 - k) := ⟨_, rfl⟩
    have hszp : 0 < sz := by rw [hsz]; exact Nat.pow_pos hbp
    have hsz6 : sz ≤ 46656 := by rw [hsz]; exact Nat.le_trans (Nat.pow_le_pow_left hb6 _) (Nat.pow_le_pow_right (by decide) (show om - 1 - k ≤ 6 by omega) : 6 ^ (om - 1 - k) ≤ 6 ^ 6)
    have hdg : wyG p base om w e0 = w / sz % base := by unfold wyG; rw [hc0, hsz]
    have hdl : w / sz % base < base := Nat.mod_lt _ hbp
    have hDe : D e0 = w / sz % base + k0 := by rw [hD]; unfold wyP; rw [if_pos ⟨he0, hp0⟩, hdg]
    have hwsz : w / sz ≤ w := Nat.div_le_self _ _
    have h120 : ∀ s3, Kr w3 s s3 → s3 120 k = nI e0 := fun s3 k3 => by
      rw [k3 120 _ rfl, ← hc0]
      exact hOp.2 e0 he0 hp0
    have hcs : cntN p (e0 + 1) = k + 1 := by rw [cntN, hp0, hc0]; rfl
    refine ab_go ok_Mo_goesBy 3 rfl ?_
    show ab_Z m_Mo_goesBy _ _ _ 7 [_, _, _, _, _, _] [_, _] _
    rw [show s2 81 59 = nI om from by rw [k2 81 59 rfl, hom]; exact hOp.1]
    refine ab_br ok_Mo_goesBy rfl rfl ?_ ?_
    · intro h1
      show ab_Z m_Mo_goesBy _ _ _ 60 [_, _, _, _, _, _] [] _
      exact absurd h1 (lp_in (by omega) hk)
    · intro h1
      show ab_Z m_Mo_goesBy _ _ _ 8 [_, _, _, _, _, _] [] _
      refine ab_go ok_Mo_goesBy 7 rfl ?_
      show ab_Z m_Mo_goesBy _ _ _ 15 [_, _, _, _, _, _] [_, _] _
      rw [show s2 81 59 = nI om from by rw [k2 81 59 rfl, hom]; exact hOp.1, show nI om - 1 - nI k = nI (om - 1 - k) from by rw [nI_sub1 (by omega), pk_sub (by omega)]]
      refine ab_cl ok_Mo_goesBy rfl [_, _] [] rfl rfl (Nat.le_of_ble_eq_true rfl) (t_Mo_power (d + 3) _ (show om - 1 - k ≤ 6 by omega) _ _ rfl rfl) ?_
      rintro _ _ ⟨rfl, rfl⟩
      show ab_Z m_Mo_goesBy _ _ _ 16 [_, _, _, _, _, _] [_] _
      rw [← hsz]
      refine ab_go ok_Mo_goesBy 3 rfl ?_
      show ab_Z m_Mo_goesBy _ _ _ 19 [_, _, _, _, _, _] [_, _] _
      refine ab_ck ok_Mo_goesBy rfl rfl (nI_ne0 hszp (by omega)) ?_
      show ab_Z m_Mo_goesBy _ _ _ 20 [_, _, _, _, _, _] [_] _
      rw [pk_div (by omega) hszp (by omega)]
      refine ab_go ok_Mo_goesBy 1 rfl ?_
      show ab_Z m_Mo_goesBy _ _ _ 21 [_, _, _, _, _, _] [_, _] _
      refine ab_ck ok_Mo_goesBy rfl rfl (nI_ne0 hbp (by omega)) ?_
      show ab_Z m_Mo_goesBy _ _ _ 22 [_, _, _, _, _, _] [_] _
      refine ab_go ok_Mo_goesBy 6 rfl ?_
      show ab_Z m_Mo_goesBy _ _ _ 28 [_, _, _, _, _, _] [_, _, _] _
      rw [hC2.1.1]
      refine ab_ia ok_Mo_goesBy rfl rfl (k := lv) (by first | rfl | (simp only [LL1, LL2, LL3, LL4, LL5, LL6, LL7, LL8, LL10, LL15, LL18, LL20, LL21, LL22, LL23, LL24, LL32, LL39, LL40, LL130, LL420, pk_mul, nI_add]; done) | (simp only [LL1, LL2, LL3, LL4, LL5, LL6, LL7, LL8, LL10, LL15, LL18, LL20, LL21, LL22, LL23, LL24, LL32, LL39, LL40, LL130, LL420, pk_mul, nI_add]; congr 1; omega)) (by omega) (Nat.le_of_ble_eq_true rfl) ?_
      show ab_Z m_Mo_goesBy _ _ _ 29 [_, _, _, _, _, _] [_, _] _
      rw [hC2.1.2.2.1.1]
      refine ab_go ok_Mo_goesBy 3 rfl ?_
      show ab_Z m_Mo_goesBy _ _ _ 32 [_, _, _, _, _, _] [_] _
      rw [show nI (w / sz) - nI (w / sz) / nI base * nI base - nI base + nI nc = nI (D e0) - 1 from by
        rw [pk_rem (by omega) hbp (by omega), hDe]
        apply Int32.toInt_inj.mp
        have h1' : (1 : Int32).toInt = 1 := rfl
        have a1 := nI_t (n := w / sz % base) (by omega)
        have a2 := nI_t (n := base) (by omega)
        have a3 := nI_t (n := nc) (by omega)
        have a4 := nI_t (n := w / sz % base + k0) (by omega)
        have b1 := i_subI (x := nI (w / sz % base)) (y := nI base) (by omega) (by omega)
        rw [i_addI (by rw [b1]; omega) (by rw [b1]; omega), b1, i_subI (by omega) (by omega)]
        omega]
      refine ab_br ok_Mo_goesBy rfl rfl ?_ ?_
      · intro h2
        show ab_Z m_Mo_goesBy _ _ _ 34 [_, _, _, _, _, _] [] _
        have hD0 : D e0 ≠ 0 := fun z => by rw [z] at h2; exact absurd h2 (by decide)
        obtain ⟨c, hcD⟩ : ∃ c, D e0 = c + 1 := ⟨D e0 - 1, by omega⟩
        have hcn : c < nc := by omega
        rw [hcD, nI_pred]
        refine ab_go ok_Mo_goesBy 5 rfl ?_
        show ab_Z m_Mo_goesBy _ _ _ 39 [_, _, _, _, _, _] [_, _, _, _] _
        refine ab_ia ok_Mo_goesBy rfl rfl (k := k) (by first | rfl | (simp only [LL1, LL2, LL3, LL4, LL5, LL6, LL7, LL8, LL10, LL15, LL18, LL20, LL21, LL22, LL23, LL24, LL32, LL39, LL40, LL130, LL420, pk_mul, nI_add]; done) | (simp only [LL1, LL2, LL3, LL4, LL5, LL6, LL7, LL8, LL10, LL15, LL18, LL20, LL21, LL22, LL23, LL24, LL32, LL39, LL40, LL130, LL420, pk_mul, nI_add]; congr 1; omega)) (by omega) (Nat.le_of_ble_eq_true rfl) ?_
        show ab_Z m_Mo_goesBy _ _ _ 40 [_, _, _, _, _, _] [_, _, _] _
        rw [h120 s2 k2]
        refine ab_cl ok_Mo_goesBy rfl [_, _, _] [] rfl ⟨_, _, rfl, rfl, Or.inl ⟨_, _, rfl, rfl⟩⟩ (Nat.le_of_ble_eq_true rfl) (t_Mo_canSeal d fm X s2 T t hC2 hcn he0) ?_
        rintro _ _ ⟨rfl, s3, rfl, k3, h116⟩
        show ab_Z m_Mo_goesBy _ _ _ 41 [_, _, _, _, _, _] [_] _
        rw [hv2] at h116 ⊢
        have hokS : okD V PT nd D (e0 + 1) = canB (stD V PT nd D e0) PT nd c e0 := by
          rw [okD, hok, Bool.true_and, decide_eq_false hD0, Bool.false_or, hcD, Nat.add_sub_cancel]
        have k23 := k2.tr k3.m23
        refine ab_br ok_Mo_goesBy rfl rfl ?_ ?_
        · intro h3
          show ab_Z m_Mo_goesBy _ _ _ 42 [_, _, _, _, _, _] [] _
          rw [bB_0.mp h3] at hokS
          refine ab_go ok_Mo_goesBy 2 rfl ?_
          show ab_Z m_Mo_goesBy _ _ _ 44 [_, _, _, _, _, _] [_, _] _
          refine ab_ck ok_Mo_goesBy rfl rfl (nI_ne0 hszp (by omega)) ?_
          show ab_Z m_Mo_goesBy _ _ _ 45 [_, _, _, _, _, _] [_] _
          rw [pk_div (by omega) hszp (by omega)]
          refine ab_go ok_Mo_goesBy 5 rfl ?_
          show ab_Z m_Mo_goesBy _ _ _ 50 [_, _, _, _, _, _] [_] _
          have fin : Po (some (.int (-(nI (w / sz) + 1) * nI sz))) (HA fm X s3 t) := by
            rw [← hPo]
            refine ⟨s3, rfl, k23, Or.inr ⟨e0, he0, hp0, ?_, hokS⟩⟩
            rw [hc0, ← hsz, ← nI_succ, Int32.neg_mul, pk_mul]
          exact ab_rI ok_Mo_goesBy rfl (fin)
        · intro h3
          show ab_Z m_Mo_goesBy _ _ _ 51 [_, _, _, _, _, _] [] _
          have hcan := bB_n0 h3
          rw [hcan] at hokS
          have hv3 : vR T nc nd (s3 115) = stD V PT nd D e0 := by rw [k3.row (c := 115) (fun _ => rfl), hv2]
          refine ab_go ok_Mo_goesBy 5 rfl ?_
          show ab_Z m_Mo_goesBy _ _ _ 56 [_, _, _, _, _, _] [_, _, _, _] _
          refine ab_ia ok_Mo_goesBy rfl rfl (k := k) (by first | rfl | (simp only [LL1, LL2, LL3, LL4, LL5, LL6, LL7, LL8, LL10, LL15, LL18, LL20, LL21, LL22, LL23, LL24, LL32, LL39, LL40, LL130, LL420, pk_mul, nI_add]; done) | (simp only [LL1, LL2, LL3, LL4, LL5, LL6, LL7, LL8, LL10, LL15, LL18, LL20, LL21, LL22, LL23, LL24, LL32, LL39, LL40, LL130, LL420, pk_mul, nI_add]; congr 1; omega)) (by omega) (Nat.le_of_ble_eq_true rfl) ?_
          show ab_Z m_Mo_goesBy _ _ _ 57 [_, _, _, _, _, _] [_, _, _] _
          rw [h120 s3 k23]
          refine ab_cl ok_Mo_goesBy rfl [_, _, _] [] rfl ⟨_, _, rfl, rfl, Or.inl ⟨_, _, rfl, rfl⟩⟩ (Nat.le_of_ble_eq_true rfl) (t_Mo_seals (d + 3) fm X s3 t (show c < 5 by omega) (show e0 < 6 by omega)) ?_
          rintro _ _ ⟨rfl, rfl⟩
          show ab_Z m_Mo_goesBy _ _ _ 58 [_, _, _, _, _, _] [] _
          refine ab_go ok_Mo_goesBy 2 rfl ?_
          show ab_Z m_Mo_goesBy _ _ _ 4 [_, _, _, _, _, _] [] _
          rw [← nI_succ]
          refine ih (e0 + 1) _ (by omega) hcs (Kr.ro (c := 115) (fun _ => rfl) k23) ?_ hokS
          rw [ab_ro_c, seal_v h5 h6 hcn he0 (fun f hf => by rw [hv3]; exact h116 hcan f hf), hv3, stD, if_neg hD0, hcD, Nat.add_sub_cancel]
      · intro h2
        show ab_Z m_Mo_goesBy _ _ _ 33 [_, _, _, _, _, _] [] _
        have hD0 : D e0 = 0 := by
          rcases Nat.eq_zero_or_pos (D e0) with h | h
          · exact h
          · exact absurd (by rw [nI_sub1 h]; exact nI_pos' (by omega)) h2
        obtain ⟨q3, q4⟩ := st_sk (V := V) (PT := PT) (nd := nd) (D := D) (e := e0) (e1 := e0 + 1) (by omega) (fun j a b => by rw [show j = e0 by omega]; exact hD0)
        refine ab_go ok_Mo_goesBy 3 rfl ?_
        show ab_Z m_Mo_goesBy _ _ _ 4 [_, _, _, _, _, _] [] _
        rw [← nI_succ]
        exact ih (e0 + 1) s2 (by omega) hcs k2 (by rw [q3]; exact hv2) (by rw [q4]; exact hok)
end

