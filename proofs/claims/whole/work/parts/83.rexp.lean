/-! the reference reads an expression: as the pure reading does -/
theorem oM_0 {k : Nat} : oM k = 0 ↔ ¬ (k = 42 ∨ k = 47) := by
  unfold oM
  split
  · omega
  · split <;> omega
theorem oA_0 {k : Nat} : oA k = 0 ↔ ¬ (k = 43 ∨ k = 45) := by
  unfold oA
  split
  · omega
  · split <;> omega
theorem oM_B {k : Nat} (h : oM k ≠ 0) : oM k = oB k ∧ (k = 42 ∨ k = 47) := by
  unfold oM at h ⊢
  unfold oB
  split
  · rename_i h1
    subst h1
    exact ⟨rfl, Or.inl rfl⟩
  · rename_i h1
    rw [if_neg h1] at h
    split
    · rename_i h2
      subst h2
      exact ⟨rfl, Or.inr rfl⟩
    · rename_i h2
      rw [if_neg h2] at h
      exact absurd rfl h
theorem oA_B {k : Nat} (h : oA k ≠ 0) : oA k = oB k ∧ (k = 43 ∨ k = 45) := by
  unfold oA at h ⊢
  unfold oB
  split
  · rename_i h1
    subst h1
    exact ⟨rfl, Or.inl rfl⟩
  · rename_i h1
    rw [if_neg h1] at h
    split
    · rename_i h2
      subst h2
      exact ⟨rfl, Or.inr rfl⟩
    · rename_i h2
      rw [if_neg h2] at h
      exact absurd rfl h
theorem go_1 {n n1 : Nat} (h : goT n = .inl n1) : n1 = n + 1 ∧ n < 400 := by
  unfold goT at h
  split at h
  · cases h
    exact ⟨rfl, by assumption⟩
  · cases h
def pdM (p : List Nat) : Prop := p.length ≤ 1 ∧ ∀ x ∈ p, x = 42 ∨ x = 47
def pdA (p : List Nat) : Prop := p.length ≤ 2 ∧ ∀ x ∈ p, isO x
def hdA (w : List Nat) : Prop := ∀ y r, w = y :: r → y = 40 ∨ y = 43 ∨ y = 45
def hdO (w : List Nat) : Prop := ∀ y r, w = y :: r → y = 40
theorem fl_M {p w : List Nat} (hp : pdM p) (hw : hdA w) : flO true (p ++ w) = (fls p, w) := flO_ap (fun x hx => by
  rcases hp.2 x hx with rfl | rfl <;> rfl) (fun y r h => by
  rcases hw y r h with rfl | rfl | rfl <;> rfl)
theorem fl_A {p w : List Nat} (hp : pdA p) (hw : hdO w) : flO false (p ++ w) = (fls p, w) := flO_ap (fun x hx => by
  rcases hp.2 x hx with rfl | rfl | rfl | rfl <;> rfl) (fun y r h => by
  rw [hw y r h]; rfl)
section
variable (d : Nat) (fm : Value) (X : Nat × (Nat → Int32)) (s : Nat → Nat → Int32) (t : Nat → Nat → Int64)
variable {K P v : Nat → Nat} {nm : Nat → List Nat} {c0 ce : Nat} {Po : Option Value → ab_H → Prop}
/-- a unit -/
def SimU (r o : Nat) : Prop := ∀ n w C, w.length ≤ 3 * o + 2 → (∀ q, unT K v r n = .inl q → goB d fm X s t K P c0 ce Po q.1 w (C ++ q.2) o) → (∀ e, unT K v r n = .inr e → FE fm X s t K P c0 ce Po e) → goA d fm X s t K P c0 ce Po n w C o
theorem sim_M (hT : TM s t K P v nm) (he : ce ≤ 840) {r o : Nat} (hU : SimU d fm X s t (K := K) (P := P) (v := v) (c0 := c0) (ce := ce) (Po := Po) r o) : ∀ m n p w C C0 Cq, 400 < n + m → pdM p → hdA w → w.length ≤ 3 * o + 1 → C ++ fls p = C0 ++ Cq → (∀ q, lvL K oM (unT K v r) m n Cq = .inl q → oM (K q.1) = 0 → ∀ p' C', pdM p' → C' ++ fls p' = C0 ++ q.2 → goB d fm X s t K P c0 ce Po q.1 (p' ++ w) C' o) → (∀ e, lvL K oM (unT K v r) m n Cq = .inr e → FE fm X s t K P c0 ce Po e) → goB d fm X s t K P c0 ce Po n (p ++ w) C o
  | 0, n, p, w, C, C0, Cq, hm, hp, hw, hl, hC, hG, hF => fun s1 hA => absurd hA.2.1.2.2.1 (by omega)
  | m + 1, n, p, w, C, C0, Cq, hm, hp, hw, hl, hC, hG, hF => by
    rw [lvL] at hG hF
    by_cases h0 : oM (K n) = 0
    · rw [if_pos h0] at hG
      exact hG (n, Cq) rfl h0 p C hp hC
    · rw [if_neg h0] at hG hF
      obtain ⟨e1, e2⟩ := oM_B h0
      have hb : decide (K n = 42 ∨ K n = 47) = true := decide_eq_true e2
      refine x_op d fm X s t hT he (show isO (K n) by unfold isO; omega) ?_ ?_ ?_
      · rw [hb, fl_M hp hw]
        show w.length < _
        omega
      · intro hg
        rw [hb, fl_M hp hw]
        rw [hg, bnd_l] at hG hF
        refine hU (n + 1) (K n :: w) (C ++ fls p) (show w.length + 1 ≤ _ by omega) ?_ ?_
        · intro q hq
          rw [hq, bnd_l] at hG hF
          refine fun s1 hA => ?_
          have hq1 := ((unT_st K v r) (n + 1) (by have := (go_1 hg).2; omega)).1.1 q hq
          have := sim_M hT he hU m q.1 [K n] w (C ++ fls p ++ q.2) C0 (Cq ++ (q.2 ++ [(oM (K n), 0)])) (by omega) ⟨Nat.le_refl _, fun x hx => by rw [List.mem_singleton.mp hx]; exact e2⟩ hw hl (by rw [hC, e1]; simp only [fls, List.map_cons, List.map_nil, List.append_assoc]) hG hF
          exact this s1 hA
        · intro e hq
          rw [hq, bnd_r] at hF
          exact hF e rfl
      · intro e hg
        rw [hg, bnd_r] at hF
        exact hF e rfl
/-- a product -/
theorem sim_P (hT : TM s t K P v nm) (he : ce ≤ 840) {r o : Nat} (hU : SimU d fm X s t (K := K) (P := P) (v := v) (c0 := c0) (ce := ce) (Po := Po) r o) (n : Nat) (w : List Nat) (C : List Ins) (hw : hdA w) (hl : w.length ≤ 3 * o + 1) (hG : ∀ q, prT K v r n = .inl q → oM (K q.1) = 0 → ∀ p' C', pdM p' → C' ++ fls p' = C ++ q.2 → goB d fm X s t K P c0 ce Po q.1 (p' ++ w) C' o) (hF : ∀ e, prT K v r n = .inr e → FE fm X s t K P c0 ce Po e) : goA d fm X s t K P c0 ce Po n w C o := by
  intro s1 hA
  have hn4 := hA.2.1.2.2.1
  refine hU n w C (by omega) (fun q hq => ?_) (fun e hq => hF e (by show bnd (unT K v r n) _ = _; rw [hq]; rfl)) s1 hA
  have hq1 := ((unT_st K v r) n hn4).1.1 q hq
  have e : prT K v r n = lvL K oM (unT K v r) 400 q.1 q.2 := by show bnd (unT K v r n) _ = _; rw [hq]; rfl
  rw [e] at hG hF
  exact sim_M d fm X s t hT he hU 400 q.1 [] w (C ++ q.2) C q.2 (by omega) ⟨Nat.zero_le _, fun x hx => absurd hx (by simp)⟩ hw hl (List.append_nil _) hG hF
theorem sim_A (hT : TM s t K P v nm) (he : ce ≤ 840) {r o : Nat} (hU : SimU d fm X s t (K := K) (P := P) (v := v) (c0 := c0) (ce := ce) (Po := Po) r o) : ∀ m n p w C C0 Cq, 400 < n + m → oM (K n) = 0 → pdA p → hdO w → w.length ≤ 3 * o → C ++ fls p = C0 ++ Cq → (∀ q, lvL K oA (prT K v r) m n Cq = .inl q → ¬ isO (K q.1) → ∀ p' C', pdA p' → C' ++ fls p' = C0 ++ q.2 → goB d fm X s t K P c0 ce Po q.1 (p' ++ w) C' o) → (∀ e, lvL K oA (prT K v r) m n Cq = .inr e → FE fm X s t K P c0 ce Po e) → goB d fm X s t K P c0 ce Po n (p ++ w) C o
  | 0, n, p, w, C, C0, Cq, hm, hM, hp, hw, hl, hC, hG, hF => fun s1 hA => absurd hA.2.1.2.2.1 (by omega)
  | m + 1, n, p, w, C, C0, Cq, hm, hM, hp, hw, hl, hC, hG, hF => by
    rw [lvL] at hG hF
    have hM' := oM_0.mp hM
    by_cases h0 : oA (K n) = 0
    · rw [if_pos h0] at hG
      have hA' := oA_0.mp h0
      exact hG (n, Cq) rfl (show ¬ isO (K n) by unfold isO; omega) p C hp hC
    · rw [if_neg h0] at hG hF
      obtain ⟨e1, e2⟩ := oA_B h0
      have hb : decide (K n = 42 ∨ K n = 47) = false := decide_eq_false hM'
      refine x_op d fm X s t hT he (show isO (K n) by unfold isO; omega) ?_ ?_ ?_
      · rw [hb, fl_A hp hw]
        show w.length < _
        omega
      · intro hg
        rw [hb, fl_A hp hw]
        rw [hg, bnd_l] at hG hF
        refine sim_P d fm X s t hT he hU (n + 1) (K n :: w) (C ++ fls p) (fun y r' hy => by cases hy; omega) (show w.length + 1 ≤ _ by omega) ?_ ?_
        · intro q hq hqM p' C' hp' hC'
          rw [hq, bnd_l] at hG hF
          have hq1 := ((prT_st K v r) (n + 1) (by have := (go_1 hg).2; omega)).1.1 q hq
          have := sim_A hT he hU m q.1 (p' ++ [K n]) w C' C0 (Cq ++ (q.2 ++ [(oA (K n), 0)])) (by omega) hqM ⟨by rw [List.length_append]; exact Nat.add_le_add_right hp'.1 1, fun x hx => by
            rcases List.mem_append.mp hx with h | h
            · have := hp'.2 x h; unfold isO; omega
            · rw [List.mem_singleton.mp h]; unfold isO; omega⟩ hw hl (by rw [show fls (p' ++ [K n]) = fls p' ++ [(oB (K n), 0)] from List.map_append .., ← List.append_assoc, hC', hC, e1]; simp only [List.append_assoc]) hG hF
          rw [List.append_assoc] at this
          exact this
        · intro e hq
          rw [hq, bnd_r] at hF
          exact hF e rfl
      · intro e hg
        rw [hg, bnd_r] at hF
        exact hF e rfl
/-- a sum -/
theorem sim_S (hT : TM s t K P v nm) (he : ce ≤ 840) {r o : Nat} (hU : SimU d fm X s t (K := K) (P := P) (v := v) (c0 := c0) (ce := ce) (Po := Po) r o) (n : Nat) (w : List Nat) (C : List Ins) (hw : hdO w) (hl : w.length ≤ 3 * o) (hG : ∀ q, smT K v r n = .inl q → ¬ isO (K q.1) → ∀ p' C', pdA p' → C' ++ fls p' = C ++ q.2 → goB d fm X s t K P c0 ce Po q.1 (p' ++ w) C' o) (hF : ∀ e, smT K v r n = .inr e → FE fm X s t K P c0 ce Po e) : goA d fm X s t K P c0 ce Po n w C o := by
  intro s1 hA
  have hn4 := hA.2.1.2.2.1
  refine sim_P d fm X s t hT he hU n w C (fun y r' hy => Or.inl (hw y r' hy)) (by omega) (fun q hq hqM p' C' hp' hC' => ?_) (fun e hq => hF e (by show bnd (prT K v r n) _ = _; rw [hq]; rfl)) s1 hA
  have hq1 := ((prT_st K v r) n hn4).1.1 q hq
  have e : smT K v r n = lvL K oA (prT K v r) 400 q.1 q.2 := by show bnd (prT K v r n) _ = _; rw [hq]; rfl
  rw [e] at hG hF
  exact sim_A d fm X s t hT he hU 400 q.1 p' w C' C q.2 (by omega) hqM ⟨by have := hp'.1; omega, fun x hx => by have := hp'.2 x hx; unfold isO; omega⟩ hw hl hC' hG hF
theorem sim_U (hT : TM s t K P v nm) (he : ce ≤ 840) : ∀ r o, o + r = 6 → SimU d fm X s t (K := K) (P := P) (v := v) (c0 := c0) (ce := ce) (Po := Po) r o := by
  intro r
  induction r with
  | zero =>
    intro o ho n w C hl hG hF s1 hA
    obtain ⟨k1, hR, hX, hb, hw, -⟩ := hA
    have hT1 := k1.T hT
    have hn4 : n ≤ 400 := hR.2.2.1
    have ho6 : o = 6 := by omega
    subst ho6
    refine ab_go ok_Mo_expression 2 rfl ?_
    show ab_Z m_Mo_expression _ _ _ 15 [_, _, _] [_, _] _
    refine ab_cl ok_Mo_expression rfl [_, _] [] rfl ⟨_, _, rfl, rfl, Or.inl ⟨_, _, rfl, rfl⟩⟩ (Nat.le_of_ble_eq_true rfl) (t_Mo_is (d + 2) fm X s1 t hT1 hR (w := 40) (by decide) _ rfl) ?_
    rintro _ _ ⟨rfl, rfl⟩
    show ab_Z m_Mo_expression _ _ _ 16 [_, _, _] [_] _
    refine ab_br ok_Mo_expression rfl rfl ?_ ?_
    · intro h1
      show ab_Z m_Mo_expression _ _ _ 45 [_, _, _] [] _
      have h1' : ¬ K n = 40 := of_decide_eq_false (bB_0.mp h1)
      have hu : unT K v 0 n = unA K v n (.inr (1, n)) := by
        rw [unT]
        unfold unA
        rw [if_neg h1', if_neg h1']
      rw [hu] at hG hF
      refine ab_go ok_Mo_expression 1 rfl ?_
      show ab_Z m_Mo_expression _ _ _ 46 [_, _, _] [_] _
      refine ab_cl ok_Mo_expression rfl [_] [] rfl ⟨_, _, rfl, rfl, Or.inl ⟨_, _, rfl, rfl⟩⟩ (Nat.le_of_ble_eq_true rfl) (t_Mo_unit d fm X s1 t hT1 hR (c0 := c0) (ce := ce) (o := 6) (C := C) (w := w) he (fun m hm => ⟨hX, by omega⟩)) ?_
      rintro _ _ ⟨rfl, s2, rfl, k2, hR2, hX2⟩
      show ab_Z m_Mo_expression _ _ _ 47 [_, _, _] [] _
      refine ab_go ok_Mo_expression 2 rfl ?_
      show ab_Z m_Mo_expression _ _ _ 49 [_, _, _] [_] _
      rw [bnd_l] at hR2
      cases hq : unA K v n (.inr (1, n)) with
      | inr e =>
        rw [hq] at hR2
        rw [hR2.1]
        refine ab_br ok_Mo_expression rfl rfl ?_ ?_
        · intro h2
          show ab_Z m_Mo_expression _ _ _ 51 [_, _, _] [] _
          exact absurd h2 (fl_1 hR2.2.2.1).2.1
        · intro h2
          show ab_Z m_Mo_expression _ _ _ 50 [_, _, _] [] _
          exact ab_rV ok_Mo_expression rfl (hF e hq s2 (k1.tr k2) hR2)
      | inl q =>
        rw [hq] at hR2
        rw [hR2.2.1]
        refine ab_go ok_Mo_expression 1 rfl ?_
        show ab_Z m_Mo_expression _ _ _ 51 [_, _, _] [] _
        have hq1 := (unA_st (K := K) (v := v) hn4 (p := .inr (1, n)) ⟨⟨fun a ha => (by cases ha), fun c p h => by cases h; exact ⟨Or.inl rfl, Nat.le_refl _, hn4⟩⟩, fun q hq => by cases hq⟩).2 q hq
        exact hG q hq s2 ⟨k1.tr k2, hR2, hX2 q (by rw [bnd_l]; exact hq), by rw [List.length_append]; omega, hw, by omega⟩
    · intro h1
      show ab_Z m_Mo_expression _ _ _ 17 [_, _, _] [] _
      have h1' : K n = 40 := of_decide_eq_true (bB_n0 h1)
      have hu : unT K v 0 n = .inr (2, n) := by
        rw [unT]
        unfold unA
        rw [if_neg (by omega), if_neg (by omega), if_pos h1']
      have hF2 := hF _ hu
      refine ab_go ok_Mo_expression 3 rfl ?_
      show ab_Z m_Mo_expression _ _ _ 20 [_, _, _] [_, _] _
      rw [hX.2.2.2.2.1]
      refine ab_go ok_Mo_expression 1 rfl ?_
      show ab_Z m_Mo_expression _ _ _ 21 [_, _, _] [] _
      refine ab_go ok_Mo_expression 2 rfl ?_
      show ab_Z m_Mo_expression _ _ _ 23 [_, _, _] [_, _] _
      refine ab_cl ok_Mo_expression rfl [_, _] [] rfl ⟨_, _, rfl, rfl, Or.inl ⟨_, _, rfl, rfl⟩⟩ (Nat.le_of_ble_eq_true rfl) (t_Mo_fail (d + 2) fm X s1 t hT1 hR (c := 2) (by omega) _ rfl) ?_
      rintro _ _ ⟨rfl, s2, rfl, k2, hR2, -⟩
      show ab_Z m_Mo_expression _ _ _ 24 [_, _, _] [] _
      rw [bnd_l] at hR2
      have hX2 := hX.j k2
      refine ab_go ok_Mo_expression 7 rfl ?_
      show ab_Z m_Mo_expression _ _ _ 31 [_, _, _] [_] _
      rw [hX2.2.2.2.2.1]
      have k3 : KX c0 ce s2 (ab_up s2 81 12 (nI 6 + 1)) := KX.u (by omega) (KX.rf c0 ce s2)
      have hR3 : RdM (ab_up s2 81 12 (nI 6 + 1)) K P (.inr (2, n)) := hR2.of (ab_up_n (by decide)) (ab_up_n (by decide)) (ab_up_n (by decide))
      refine ab_cl ok_Mo_expression rfl [_] [] rfl ⟨_, _, rfl, rfl, Or.inl ⟨_, _, rfl, rfl⟩⟩ (Nat.le_of_ble_eq_true rfl) (t_Mo_goesOn (d + 1) fm X _ t (k3.T (k2.n.T hT1)) hR3 (fun m hm => by cases hm)) ?_
      rintro _ _ ⟨rfl, s4, rfl, k4, hR4⟩
      show ab_Z m_Mo_expression _ _ _ 32 [_, _, _] [] _
      refine ab_go ok_Mo_expression 5 rfl ?_
      show ab_Z m_Mo_expression _ _ _ 37 [_, _, _] [_, _, _] _
      have h46 : s4 81 46 = nI w.length := (k4 81 46 (by omega)).trans ((ab_up_n (by decide)).trans hX2.2.2.1)
      rw [h46]
      refine ab_is ok_Mo_expression rfl rfl (k := (w.length)) (by first | rfl | (simp only [LL1, LL2, LL3, LL4, LL5, LL6, LL7, LL8, LL10, LL15, LL18, LL20, LL21, LL22, LL23, LL24, LL32, LL39, LL40, LL130, LL420, pk_mul, nI_add]; done) | (simp only [LL1, LL2, LL3, LL4, LL5, LL6, LL7, LL8, LL10, LL15, LL18, LL20, LL21, LL22, LL23, LL24, LL32, LL39, LL40, LL130, LL420, pk_mul, nI_add]; congr 1; omega)) (by omega) (Nat.le_of_ble_eq_true rfl) ?_
      show ab_Z m_Mo_expression _ _ _ 38 [_, _, _] [] _
      refine ab_go ok_Mo_expression 7 rfl ?_
      show ab_Z m_Mo_expression _ _ _ 13 [_, _, _] [] _
      have k5 : KX c0 ce s4 (ab_up (ab_up s4 111 w.length 6) 81 46 (ab_up s4 111 w.length 6 81 46 + 1)) := KX.u (by omega) (KX.u (by omega) (KX.rf c0 ce s4))
      exact x_badA d fm X s t hT he ((((k1.tr k2.x).tr k3).tr k4.x).tr k5) (hR4.of (by rw [ab_up_n (by decide), ab_up_o (by decide)]) (by rw [ab_up_n (by decide), ab_up_o (by decide)]) (by rw [ab_up_n (by decide), ab_up_o (by decide)])) hF2
  | succ r ih =>
    intro o ho n w C hl hG hF s1 hA
    have hA0 := hA
    obtain ⟨k1, hR, hX, hb, hw, -⟩ := hA
    have hT1 := k1.T hT
    have hn4 : n ≤ 400 := hR.2.2.1
    refine ab_go ok_Mo_expression 2 rfl ?_
    show ab_Z m_Mo_expression _ _ _ 15 [_, _, _] [_, _] _
    refine ab_cl ok_Mo_expression rfl [_, _] [] rfl ⟨_, _, rfl, rfl, Or.inl ⟨_, _, rfl, rfl⟩⟩ (Nat.le_of_ble_eq_true rfl) (t_Mo_is (d + 2) fm X s1 t hT1 hR (w := 40) (by decide) _ rfl) ?_
    rintro _ _ ⟨rfl, rfl⟩
    show ab_Z m_Mo_expression _ _ _ 16 [_, _, _] [_] _
    refine ab_br ok_Mo_expression rfl rfl ?_ ?_
    · intro h1
      show ab_Z m_Mo_expression _ _ _ 45 [_, _, _] [] _
      have h1' : ¬ K n = 40 := of_decide_eq_false (bB_0.mp h1)
      have hu : unT K v (r + 1) n = unA K v n (.inr (1, n)) := by
        rw [unT]
        unfold unA
        rw [if_neg h1', if_neg h1']
      rw [hu] at hG hF
      refine ab_go ok_Mo_expression 1 rfl ?_
      show ab_Z m_Mo_expression _ _ _ 46 [_, _, _] [_] _
      refine ab_cl ok_Mo_expression rfl [_] [] rfl ⟨_, _, rfl, rfl, Or.inl ⟨_, _, rfl, rfl⟩⟩ (Nat.le_of_ble_eq_true rfl) (t_Mo_unit d fm X s1 t hT1 hR (c0 := c0) (ce := ce) (o := o) (C := C) (w := w) he (fun m hm => ⟨hX, by omega⟩)) ?_
      rintro _ _ ⟨rfl, s2, rfl, k2, hR2, hX2⟩
      show ab_Z m_Mo_expression _ _ _ 47 [_, _, _] [] _
      refine ab_go ok_Mo_expression 2 rfl ?_
      show ab_Z m_Mo_expression _ _ _ 49 [_, _, _] [_] _
      rw [bnd_l] at hR2
      cases hq : unA K v n (.inr (1, n)) with
      | inr e =>
        rw [hq] at hR2
        rw [hR2.1]
        refine ab_br ok_Mo_expression rfl rfl ?_ ?_
        · intro h2
          show ab_Z m_Mo_expression _ _ _ 51 [_, _, _] [] _
          exact absurd h2 (fl_1 hR2.2.2.1).2.1
        · intro h2
          show ab_Z m_Mo_expression _ _ _ 50 [_, _, _] [] _
          exact ab_rV ok_Mo_expression rfl (hF e hq s2 (k1.tr k2) hR2)
      | inl q =>
        rw [hq] at hR2
        rw [hR2.2.1]
        refine ab_go ok_Mo_expression 1 rfl ?_
        show ab_Z m_Mo_expression _ _ _ 51 [_, _, _] [] _
        have hq1 := (unA_st (K := K) (v := v) hn4 (p := .inr (1, n)) ⟨⟨fun a ha => (by cases ha), fun c p h => by cases h; exact ⟨Or.inl rfl, Nat.le_refl _, hn4⟩⟩, fun q hq => by cases hq⟩).2 q hq
        exact hG q hq s2 ⟨k1.tr k2, hR2, hX2 q (by rw [bnd_l]; exact hq), by rw [List.length_append]; omega, hw, by omega⟩
    · intro h1
      show ab_Z m_Mo_expression _ _ _ 17 [_, _, _] [] _
      have h1' : K n = 40 := of_decide_eq_true (bB_n0 h1)
      have hu : unT K v (r + 1) n = bnd (goT n) fun t1 => bnd (smT K v r t1) fun q => bnd (eatT K 41 q.1) fun t2 => .inl (t2, q.2) := by
        rw [unT]
        unfold unA
        rw [if_neg (by omega), if_neg (by omega), if_pos h1']
      rw [hu] at hG hF
      refine ab_go ok_Mo_expression 3 rfl ?_
      show ab_Z m_Mo_expression _ _ _ 20 [_, _, _] [_, _] _
      rw [hX.2.2.2.2.1]
      refine ab_br ok_Mo_expression rfl rfl ?_ ?_
      · intro h2
        show ab_Z m_Mo_expression _ _ _ 21 [_, _, _] [] _
        exact absurd ((nI_eq (show o < 2 ^ 31 by omega) (show 6 < 2 ^ 31 by decide)).mp h2) (by omega)
      · intro h2
        show ab_Z m_Mo_expression _ _ _ 24 [_, _, _] [] _
        refine ab_go ok_Mo_expression 7 rfl ?_
        show ab_Z m_Mo_expression _ _ _ 31 [_, _, _] [_] _
        rw [hX.2.2.2.2.1, ← nI_succ]
        have k3 : KX c0 ce s1 (ab_up s1 81 12 (nI (o + 1))) := KX.u (by omega) (KX.rf c0 ce s1)
        have hR3 : RdM (ab_up s1 81 12 (nI (o + 1))) K P (.inl n) := hR.of (ab_up_n (by decide)) (ab_up_n (by decide)) (ab_up_n (by decide))
        refine ab_cl ok_Mo_expression rfl [_] [] rfl ⟨_, _, rfl, rfl, Or.inl ⟨_, _, rfl, rfl⟩⟩ (Nat.le_of_ble_eq_true rfl) (t_Mo_goesOn (d + 1) fm X _ t (k3.T hT1) hR3 (fun m hm => by cases hm; omega)) ?_
        rintro _ _ ⟨rfl, s4, rfl, k4, hR4⟩
        show ab_Z m_Mo_expression _ _ _ 32 [_, _, _] [] _
        have h46 : s4 81 46 = nI w.length := (k4 81 46 (by omega)).trans ((ab_up_n (by decide)).trans hX.2.2.1)
        refine ab_go ok_Mo_expression 5 rfl ?_
        show ab_Z m_Mo_expression _ _ _ 37 [_, _, _] [_, _, _] _
        rw [h46]
        refine ab_is ok_Mo_expression rfl rfl (k := (w.length)) (by first | rfl | (simp only [LL1, LL2, LL3, LL4, LL5, LL6, LL7, LL8, LL10, LL15, LL18, LL20, LL21, LL22, LL23, LL24, LL32, LL39, LL40, LL130, LL420, pk_mul, nI_add]; done) | (simp only [LL1, LL2, LL3, LL4, LL5, LL6, LL7, LL8, LL10, LL15, LL18, LL20, LL21, LL22, LL23, LL24, LL32, LL39, LL40, LL130, LL420, pk_mul, nI_add]; congr 1; omega)) (by omega) (Nat.le_of_ble_eq_true rfl) ?_
        show ab_Z m_Mo_expression _ _ _ 38 [_, _, _] [] _
        refine ab_go ok_Mo_expression 7 rfl ?_
        show ab_Z m_Mo_expression _ _ _ 13 [_, _, _] [] _
        rw [show ab_up s4 111 w.length 6 81 46 = nI w.length from by rw [ab_up_o (by decide)]; exact h46, ← nI_succ]
        have k5 : KX c0 ce s4 (ab_up (ab_up s4 111 w.length 6) 81 46 (nI (w.length + 1))) := KX.u (by omega) (KX.u (by omega) (KX.rf c0 ce s4))
        have k15 := ((k1.tr k3).tr k4.x).tr k5
        have hR5 : RdM (ab_up (ab_up s4 111 w.length 6) 81 46 (nI (w.length + 1))) K P (bnd (.inl n) goT) := hR4.of (by rw [ab_up_n (by decide), ab_up_o (by decide)]) (by rw [ab_up_n (by decide), ab_up_o (by decide)]) (by rw [ab_up_n (by decide), ab_up_o (by decide)])
        rw [bnd_l] at hR5
        cases hg : goT n with
        | inr e =>
          rw [hg] at hR5
          exact x_badA d fm X s t hT he k15 hR5 (hF e (by rw [hg]; rfl))
        | inl n1 =>
          obtain ⟨hn1, hn2⟩ := go_1 hg
          subst hn1
          rw [hg] at hR5
          rw [hg, bnd_l] at hG hF
          have hX4 : XP s4 c0 C w (o + 1) := by
            obtain ⟨b1, b2, b3, b4, b5, b6⟩ := hX
            have h : XP (ab_up s1 81 12 (nI (o + 1))) c0 C w (o + 1) := ⟨(ab_up_n (by decide)).trans b1, fun j q hq => by rw [ab_up_o (by decide), ab_up_o (by decide)]; exact b2 j q hq, (ab_up_n (by decide)).trans b3, b4.of (fun k _ => by rw [ab_up_o (by decide)]), ab_up_s .., b6⟩
            exact h.j k4
          have hX5 : XP (ab_up (ab_up s4 111 w.length 6) 81 46 (nI (w.length + 1))) c0 C (40 :: w) (o + 1) := by
            obtain ⟨b1, b2, b3, b4, b5, b6⟩ := hX4
            refine ⟨by rw [ab_up_n (by decide), ab_up_o (by decide)]; exact b1, fun j q hq => ?_, ab_up_s .., ⟨by rw [ab_up_o (by decide), ab_up_s]; rfl, b4.of (fun k hk => by rw [ab_up_o (by decide), ab_up_n (by omega)])⟩, by rw [ab_up_n (by decide), ab_up_o (by decide)]; exact b5, fun x hx => ?_⟩
            · rw [ab_up_o (by decide), ab_up_o (by decide), ab_up_o (by decide), ab_up_o (by decide)]
              exact b2 j q hq
            · rcases List.mem_cons.mp hx with rfl | hx
              · exact Or.inl rfl
              · exact b6 x hx
          have hO : hdO (40 :: w) := fun y r' hy => by cases hy; rfl
          refine sim_S d fm X s t hT he (ih (o + 1) (by omega)) (n + 1) (40 :: w) C hO (show w.length + 1 ≤ _ by omega) ?_ ?_ _ ⟨k15, hR5, hX5, by show c0 + C.length + (w.length + 1) + 420 ≤ _; omega, by show w.length + 1 ≤ _; omega, by omega⟩
          · intro q hq hno p' C' hp' hC'
            rw [hq, bnd_l] at hG hF
            have hfl := fl_A hp' hO
            by_cases h41 : K q.1 = 41
            · have hee : eatT K 41 q.1 = goT q.1 := by unfold eatT; rw [if_pos h41]
              rw [hee] at hG hF
              refine x_cl d fm X s t hT he h41 (w' := w) (by rw [hfl]) (by omega) ?_ ?_
              · intro hg2
                rw [hfl, hC']
                exact hG (q.1 + 1, q.2) (by rw [hg2]; rfl)
              · intro e hg2
                exact hF e (by rw [hg2]; rfl)
            · refine x_end d fm X s t hT he hno (fun z => absurd z h41) (fun z => by omega) (fun _ => hF (1, q.1) ?_)
              unfold eatT
              rw [if_neg h41]
              rfl
          · intro e hq
            exact hF e (by rw [hq]; rfl)
theorem t_Mo_expression (hT : TM s t K P v nm) (he : ce ≤ 840) {R : Rs Nat} (hR : RdM s K P R) (hc0 : ∀ n, R = .inl n → s 81 42 = nI c0 ∧ c0 + 420 ≤ ce + n ∧ s 81 12 = 0) : ab_T g_Mo_expression (d + 3) (0, 0) [.ref 81] (HA fm X s t) (fun r h => r = none ∧ ∃ s', h = HA fm X s' t ∧ KX c0 ce s s' ∧ RdM s' K P (mpT Prod.fst (bnd R (smT K v 6))) ∧ ∀ q, bnd R (smT K v 6) = .inl q → s' 81 42 = nI (c0 + q.2.length) ∧ cdM s' c0 q.2 ∧ s' 81 12 = 0) := by
  generalize hPo : (fun r h => r = none ∧ ∃ s', h = HA fm X s' t ∧ KX c0 ce s s' ∧ RdM s' K P (mpT Prod.fst (bnd R (smT K v 6))) ∧ ∀ q, bnd R (smT K v 6) = .inl q → s' 81 42 = nI (c0 + q.2.length) ∧ cdM s' c0 q.2 ∧ s' 81 12 = 0 : Option Value → ab_H → Prop) = Po
  have k0 : KX c0 ce s (ab_up s 81 46 0) := KX.u (by omega) (KX.rf c0 ce s)
  have hR0 : RdM (ab_up s 81 46 0) K P R := hR.of (ab_up_n (by decide)) (ab_up_n (by decide)) (ab_up_n (by decide))
  cases R with
  | inr e =>
    refine ab_T_of (M := m_Mo_expression) rfl rfl (Nat.le_of_ble_eq_true rfl) ?_
    show ab_Z m_Mo_expression _ _ _ 0 [_, _, _] [] _
    refine ab_go ok_Mo_expression 8 rfl ?_
    show ab_Z m_Mo_expression _ _ _ 8 [_, _, _] [] _
    refine ab_go ok_Mo_expression 1 rfl ?_
    show ab_Z m_Mo_expression _ _ _ 9 [_, _, _] [_] _
    refine ab_go ok_Mo_expression 1 rfl ?_
    show ab_Z m_Mo_expression _ _ _ 10 [_, _, _] [] _
    refine ab_go ok_Mo_expression 2 rfl ?_
    show ab_Z m_Mo_expression _ _ _ 12 [_, _, _] [_] _
    rw [hR0.1]
    refine ab_br ok_Mo_expression rfl rfl ?_ ?_
    · intro h1
      show ab_Z m_Mo_expression _ _ _ 13 [_, _, _] [] _
      exact absurd h1 (fl_1 hR0.2.2.1).1
    · intro h1
      show ab_Z m_Mo_expression _ _ _ 142 [_, _, _] [] _
      have fin : Po none (HA fm X (ab_up s 81 46 0) t) := by
        rw [← hPo]
        exact ⟨rfl, _, rfl, k0, hR0, fun q hq => by cases hq⟩
      exact ab_rV ok_Mo_expression rfl (fin)
  | inl n =>
    obtain ⟨c1, c2, c3⟩ := hc0 n rfl
    refine ab_T_of (M := m_Mo_expression) rfl rfl (Nat.le_of_ble_eq_true rfl) ?_
    show ab_Z m_Mo_expression _ _ _ 0 [_, _, _] [] _
    refine ab_go ok_Mo_expression 8 rfl ?_
    show ab_Z m_Mo_expression _ _ _ 8 [_, _, _] [] _
    refine ab_go ok_Mo_expression 1 rfl ?_
    show ab_Z m_Mo_expression _ _ _ 9 [_, _, _] [_] _
    refine ab_go ok_Mo_expression 1 rfl ?_
    show ab_Z m_Mo_expression _ _ _ 10 [_, _, _] [] _
    refine ab_go ok_Mo_expression 2 rfl ?_
    show ab_Z m_Mo_expression _ _ _ 12 [_, _, _] [_] _
    rw [hR0.2.1, show ab_up s 81 46 0 81 12 = nI 0 from by rw [ab_up_n (by decide)]; exact c3]
    refine ab_go ok_Mo_expression 1 rfl ?_
    show ab_Z m_Mo_expression _ _ _ 13 [_, _, _] [] _
    refine sim_S d fm X s t hT he (sim_U d fm X s t hT he 6 0 rfl) n [] [] (fun y r hy => by cases hy) (Nat.zero_le _) ?_ ?_ _ ⟨k0, hR0, ⟨by rw [ab_up_n (by decide)]; exact c1, fun j q hq => by simp at hq, ab_up_s .., trivial, by rw [ab_up_n (by decide)]; exact c3, fun x hx => absurd hx (by simp)⟩, by simpa using c2, Nat.zero_le _, Nat.zero_le _⟩
    · intro q hq hno p' C' hp' hC'
      have hfl := fl_A hp' (w := []) (fun y r hy => by cases hy)
      refine x_end d fm X s t hT he hno (fun _ => rfl) (fun _ => ⟨by rw [hfl], ?_⟩) (fun z => absurd rfl z)
      intro s2 k2 hR2 hX2
      rw [hfl, hC', List.nil_append] at hX2
      rw [← hPo]
      refine ⟨rfl, s2, rfl, k2, by rw [bnd_l, hq]; exact hR2, fun q' hq' => ?_⟩
      rw [bnd_l, hq] at hq'
      cases hq'
      exact ⟨hX2.1, hX2.2.1, hX2.2.2.2.2.1⟩
    · intro e hq s2 k2 hR2
      rw [← hPo]
      exact ⟨rfl, s2, rfl, k2, by rw [bnd_l, hq]; exact hR2, fun q' hq' => by rw [bnd_l, hq] at hq'; cases hq'⟩
end

