/-! the class reads a text -/
abbrev LtP (l : Nat × Nat) (t : Nat) : Prop := l.1 ≠ 0 → l.2 ≤ t
theorem ltU_P {l : Nat × Nat} {c t t' : Nat} (h : LtP l t) (ht : t ≤ t') : LtP (ltU l c t) t' := by
  intro hz
  unfold ltU at hz ⊢
  by_cases h0 : l.1 = 0
  · rw [if_pos h0]; exact ht
  · rw [if_neg h0]; exact Nat.le_trans (h h0) ht
theorem LtP.up {l : Nat × Nat} {t t' : Nat} (h : LtP l t) (ht : t ≤ t') : LtP l t' := fun z => Nat.le_trans (h z) ht
theorem go_up {t t' : Nat} (h : goT t = .inl t') : t < t' := by
  unfold goT at h
  split at h
  · cases h; omega
  · cases h
theorem eat_up {K : Nat → Nat} {w t t' : Nat} (h : eatT K w t = .inl t') : t < t' := by
  unfold eatT at h
  split at h
  · exact go_up h
  · cases h
theorem int_P {K v : Nat → Nat} {m t : Nat} {l : Nat × Nat} {a : Nat × Nat × (Nat × Nat)} (h : intT K v m t l = .inl a) (hl : LtP l t) : t < a.1 ∧ LtP a.2.2 a.1 := by
  obtain ⟨t1, b1, b2⟩ := bnd_in h
  cases b2
  have := eat_up b1
  refine ⟨this, ?_⟩
  show LtP (if m < v t then ltU l 5 t else l) t1
  split
  · exact ltU_P hl (by omega)
  · exact hl.up (by omega)
theorem lv3_P {K v : Nat → Nat} {t : Nat} {l : Nat × Nat} {a : Nat × (Nat → Nat) × (Nat × Nat)} (h : lv3T K v t l = .inl a) (hl : LtP l t) : t < a.1 ∧ LtP a.2.2 a.1 := by
  obtain ⟨x, b1, b2⟩ := bnd_in h
  obtain ⟨y, b3, b4⟩ := bnd_in b2
  obtain ⟨z, b5, b6⟩ := bnd_in b4
  cases b6
  have h1 := int_P b1 hl
  have h2 := int_P b3 h1.2
  have h3 := int_P b5 h2.2
  exact ⟨by show t < z.1; omega, h3.2⟩
theorem dn_P {K : Nat → Nat} {nm : Nat → List Nat} {x : Tx} {t : Nat} {l : Nat × Nat} {a : Nat × Int32 × (Nat × Nat)} (h : dnT K nm x t l = .inl a) (hl : LtP l t) : t < a.1 ∧ LtP a.2.2 a.1 := by
  obtain ⟨t1, b1, b2⟩ := bnd_in h
  cases b2
  have := eat_up b1
  refine ⟨this, ?_⟩
  show LtP (if deedX x (nm t) = -1 then ltU l 4 t else l) t1
  split
  · exact ltU_P hl (by omega)
  · exact hl.up (by omega)
theorem law_up {K v : Nat → Nat} {t : Nat} {q : Nat × List (List Ins)} (ht : t ≤ 400) (h : lawT K v t = .inl q) : t ≤ q.1 := by
  have hl : ∀ n t P q, t ≤ 400 → lawL K v n t P = .inl q → t ≤ q.1 := by
    intro n
    induction n with
    | zero =>
      intro t P q ht h
      rw [lawL] at h
      split at h
      · cases h
      · obtain ⟨c, b1, b2⟩ := bnd_in h
        cases b2
        have := (smT_st K v 6 t ht).1.1 c b1
        exact Nat.le_of_lt this.1
    | succ n ih =>
      intro t P q ht h
      rw [lawL] at h
      split at h
      · obtain ⟨t1, b1, b2⟩ := bnd_in h
        obtain ⟨q1, b3, b4⟩ := bnd_in b2
        obtain ⟨t2, b5, b6⟩ := bnd_in b4
        obtain ⟨q2, b7, b8⟩ := bnd_in b6
        obtain ⟨t3, b9, b10⟩ := bnd_in b8
        obtain ⟨q3, b11, b12⟩ := bnd_in b10
        obtain ⟨t4, b13, b14⟩ := bnd_in b12
        have a1 : t < t1 ∧ t1 ≤ 400 := (go_st ht).1 t1 b1
        have a2 := (smT_st K v 6 t1 a1.2).1.1 q1 b3
        have a3 : q1.1 < t2 ∧ t2 ≤ 400 := (eat_st K 60 a2.2).1 t2 b5
        have a4 := (smT_st K v 6 t2 a3.2).1.1 q2 b7
        have a5 : q2.1 < t3 ∧ t3 ≤ 400 := (eat_st K 266 a4.2).1 t3 b9
        have a6 := (smT_st K v 6 t3 a5.2).1.1 q3 b11
        have a7 : q3.1 < t4 ∧ t4 ≤ 400 := (eat_st K 267 a6.2).1 t4 b13
        have a8 := ih t4 _ q a7.2 b14
        omega
      · obtain ⟨c, b1, b2⟩ := bnd_in h
        cases b2
        have := (smT_st K v 6 t ht).1.1 c b1
        exact Nat.le_of_lt this.1
  obtain ⟨t1, b1, b2⟩ := bnd_in h
  obtain ⟨t2, b3, b4⟩ := bnd_in b2
  have a1 : t < t1 ∧ t1 ≤ 400 := (go_st ht).1 t1 b1
  have a2 : t1 < t2 ∧ t2 ≤ 400 := (eat_st K 61 a1.2).1 t2 b3
  have := hl 4 t2 [] q a2.2 b4
  omega
theorem tel_P {K v : Nat → Nat} {nm : Nat → List Nat} {x : Tx} {t : Nat} {q : Nat × Tx} (ht : t ≤ 400) (h : telT K v nm x t = .inl q) (hl : LtP (xLt x) t) : t < q.1 ∧ LtP (xLt q.2) q.1 := by
  obtain ⟨a, b1, b2⟩ := bnd_in h
  obtain ⟨t9, b3, b4⟩ := bnd_in b2
  cases b4
  have h9 := eat_up b3
  have main : t ≤ a.1 ∧ LtP (xLt a.2) a.1 := by
    have clk : ∀ (m : Nat) (w : List Nat) (t1 : Nat), t < t1 → LtP (if hasX x w = true then ltU (xLt x) 3 t1 else xLt x) t1 := fun m w t1 h => by
      split
      · exact ltU_P (hl.up (by omega)) (Nat.le_refl _)
      · exact hl.up (by omega)
    unfold telB at b1
    split at b1
    · unfold clkT at b1
      split at b1
      · cases b1
      · obtain ⟨t1, c1, c2⟩ := bnd_in b1
        obtain ⟨t2, c3, c4⟩ := bnd_in c2
        obtain ⟨a1, c5, c6⟩ := bnd_in c4
        obtain ⟨b1', c7, c8⟩ := bnd_in c6
        cases c8
        have d1 := go_up c1
        have d2 := eat_up c3
        have d3 := int_P c5 ((clk 0 (nm t1) t1 d1).up (by omega))
        have d4 := lv3_P c7 d3.2
        exact ⟨by show t ≤ b1'.1; omega, d4.2⟩
    · split at b1
      · unfold dedT at b1
        split at b1
        · cases b1
        · obtain ⟨t1, c1, c2⟩ := bnd_in b1
          obtain ⟨t2, c3, c4⟩ := bnd_in c2
          obtain ⟨a1, c5, c6⟩ := bnd_in c4
          obtain ⟨b1', c7, c8⟩ := bnd_in c6
          cases c8
          have d1 := go_up c1
          have d2 := eat_up c3
          have d3 := int_P c5 ((clk 0 (nm t1) t1 d1).up (by omega))
          have d4 := lv3_P c7 d3.2
          exact ⟨by show t ≤ b1'.1; omega, d4.2⟩
      · split at b1
        · unfold treT at b1
          split at b1
          · cases b1
          · obtain ⟨t1, c1, c2⟩ := bnd_in b1
            obtain ⟨a1, c3, c4⟩ := bnd_in c2
            obtain ⟨b1', c5, c6⟩ := bnd_in c4
            cases c6
            have d1 := go_up c1
            have d2 := dn_P c3 (hl.up (by omega))
            have d3 := dn_P c5 d2.2
            refine ⟨by show t ≤ b1'.1; omega, ?_⟩
            show LtP (if a1.2.1 = b1'.2.1 ∧ a1.2.1 ≠ -1 then ltU b1'.2.2 3 a1.1 else b1'.2.2) b1'.1
            split
            · intro hz
              unfold ltU at hz ⊢
              by_cases h0 : b1'.2.2.1 = 0
              · rw [if_pos h0]; show a1.1 ≤ b1'.1; omega
              · rw [if_neg h0]; exact d3.2 h0
            · exact d3.2
        · have lw : ∀ k, lwT K v x k t = .inl a → t ≤ a.1 ∧ LtP (xLt a.2) a.1 := fun k hk => by
            obtain ⟨q1, c1, c2⟩ := bnd_in hk
            cases c2
            have := law_up ht c1
            exact ⟨this, hl.up this⟩
          split at b1
          · exact lw 0 b1
          · split at b1
            · exact lw 1 b1
            · split at b1
              · exact lw 2 b1
              · split at b1
                · exact lw 3 b1
                · split at b1
                  · obtain ⟨t1, c1, c2⟩ := bnd_in b1
                    obtain ⟨a1, c3, c4⟩ := bnd_in c2
                    cases c4
                    have d1 := go_up c1
                    have d2 := int_P c3 (hl.up (by omega))
                    exact ⟨by show t ≤ a1.1; omega, d2.2⟩
                  · split at b1
                    · obtain ⟨t1, c1, c2⟩ := bnd_in b1
                      obtain ⟨a1, c3, c4⟩ := bnd_in c2
                      cases c4
                      have d1 := go_up c1
                      have d2 := int_P c3 (hl.up (by omega))
                      exact ⟨by show t ≤ a1.1; omega, d2.2⟩
                    · cases b1
  exact ⟨by show t < t9; omega, main.2.up (by show a.1 ≤ t9; omega)⟩
theorem gd_le {K : Nat → Nat} {n m : Nat} (h : gdT K n) (hm : m ≤ n) : gdT K m := ⟨by have := h.1; omega, fun j hj => h.2 j (by omega)⟩
/-- what a reading answers, and where its fault stands -/
def rdN (F : Rs (Nat × Tx)) : Nat := match F with
  | .inl q => (xLt q.2).1
  | .inr e => e.1
def rdP (P : Nat → Nat) (F : Rs (Nat × Tx)) : Nat := match F with
  | .inl q => P (xLt q.2).2
  | .inr e => P e.2
section
variable (d : Nat) (fm : Value) (X : Nat × (Nat → Int32)) (s : Nat → Nat → Int32) (t : Nat → Nat → Int64)
variable {K P v : Nat → Nat} {nm : Nat → List Nat}
theorem t_Te_clear : ab_T g_Te_clear (d + 2) (0, 0) [.ref 57] (HA fm X s t) (fun r h => r = none ∧ ∃ s', h = HA fm X s' t ∧ (∀ c k, c ≠ 57 → ¬ (65 ≤ c ∧ c ≤ 80) → ¬ (c = 8 ∧ (k = 1 ∨ k = 2 ∨ k = 3)) → s' c k = s c k) ∧ DrC s' t tx0) := by
  obtain ⟨s0, hs0⟩ : ∃ s0, s0 = ab_up (ab_up (ab_up (ab_up (ab_up s 57 11 0) 57 12 0) 57 13 0) 57 14 0) 57 15 0 := ⟨_, rfl⟩
  have f11 : s0 57 11 = nI 0 := by rw [hs0]; rfl
  have f12 : s0 57 12 = nI 0 := by rw [hs0]; rfl
  have f13 : s0 57 13 = nI 0 := by rw [hs0]; rfl
  have f14 : s0 57 14 = nI 0 := by rw [hs0]; rfl
  have f15 : s0 57 15 = nI 0 := by rw [hs0]; rfl
  have fo : ∀ c, c ≠ 57 → s0 c = s c := fun c hc => by rw [hs0, ab_up_o hc, ab_up_o hc, ab_up_o hc, ab_up_o hc, ab_up_o hc]
  have ok : ∀ e : Ins, (e = (1, 0) ∨ e = (0, 0) ∨ e = (1, 3)) → okQ [e] 0 := fun e he => by
    rcases he with rfl | rfl | rfl
    · exact ⟨⟨by decide, by decide⟩, rfl⟩
    · exact ⟨⟨by decide, by decide⟩, rfl⟩
    · exact ⟨⟨by decide, by decide⟩, rfl⟩
  refine ab_T_of (M := m_Te_clear) rfl rfl (Nat.le_of_ble_eq_true rfl) ?_
  show ab_Z m_Te_clear _ _ _ 0 [_] [] _
  refine ab_go ok_Te_clear 18 rfl ?_
  show ab_Z m_Te_clear _ _ _ 18 [_] [_, _] _
  rw [← hs0]
  refine ab_cl ok_Te_clear rfl [_, _] [] rfl ⟨_, _, rfl, rfl, Or.inl ⟨_, _, rfl, rfl⟩⟩ (Nat.le_of_ble_eq_true rfl) (t_La_setTo_65 d fm X s0 t (1, 0) _ rfl (ok _ (Or.inl rfl))) ?_
  rintro _ _ ⟨rfl, s1, rfl, k1, l1⟩
  show ab_Z m_Te_clear _ _ _ 19 [_] [] _
  refine ab_go ok_Te_clear 3 rfl ?_
  show ab_Z m_Te_clear _ _ _ 22 [_] [_, _] _
  refine ab_cl ok_Te_clear rfl [_, _] [] rfl ⟨_, _, rfl, rfl, Or.inl ⟨_, _, rfl, rfl⟩⟩ (Nat.le_of_ble_eq_true rfl) (t_La_setTo_69 d fm X s1 t (0, 0) _ rfl (ok _ (Or.inr (Or.inl rfl)))) ?_
  rintro _ _ ⟨rfl, s2, rfl, k2, l2⟩
  show ab_Z m_Te_clear _ _ _ 23 [_] [] _
  refine ab_go ok_Te_clear 3 rfl ?_
  show ab_Z m_Te_clear _ _ _ 26 [_] [_, _] _
  refine ab_cl ok_Te_clear rfl [_, _] [] rfl ⟨_, _, rfl, rfl, Or.inl ⟨_, _, rfl, rfl⟩⟩ (Nat.le_of_ble_eq_true rfl) (t_La_setTo_73 d fm X s2 t (1, 3) _ rfl (ok _ (Or.inr (Or.inr rfl)))) ?_
  rintro _ _ ⟨rfl, s3, rfl, k3, l3⟩
  show ab_Z m_Te_clear _ _ _ 27 [_] [] _
  refine ab_go ok_Te_clear 3 rfl ?_
  show ab_Z m_Te_clear _ _ _ 30 [_] [_, _] _
  refine ab_cl ok_Te_clear rfl [_, _] [] rfl ⟨_, _, rfl, rfl, Or.inl ⟨_, _, rfl, rfl⟩⟩ (Nat.le_of_ble_eq_true rfl) (t_La_setTo_77 d fm X s3 t (0, 0) _ rfl (ok _ (Or.inr (Or.inl rfl)))) ?_
  rintro _ _ ⟨rfl, s4, rfl, k4, l4⟩
  show ab_Z m_Te_clear _ _ _ 31 [_] [] _
  have e57 : ∀ k, s4 57 k = s0 57 k := fun k => by rw [k4 57 k (by omega) (by omega) (by omega) (by omega), k3 57 k (by omega) (by omega) (by omega) (by omega), k2 57 k (by omega) (by omega) (by omega) (by omega), k1 57 k (by omega) (by omega) (by omega) (by omega)]
  have hall : ∀ c k, c ≠ 57 → ¬ (65 ≤ c ∧ c ≤ 80) → ¬ (c = 8 ∧ (k = 1 ∨ k = 2 ∨ k = 3)) → s4 c k = s c k := fun c k h1 h2 h3 => by rw [k4 c k h3 (by omega) (by omega) (by omega), k3 c k h3 (by omega) (by omega) (by omega), k2 c k h3 (by omega) (by omega) (by omega), k1 c k h3 (by omega) (by omega) (by omega), fo c h1]
  have hD : DrC s4 t tx0 := by
    refine ⟨⟨(e57 11).trans f11, Nat.zero_le _, fun c hc => absurd hc (Nat.not_lt_zero c)⟩, ⟨(e57 12).trans f12, Nat.zero_le _, fun c hc => absurd hc (Nat.not_lt_zero c)⟩, ⟨(e57 13).trans f13, Nat.zero_le _, fun c hc => absurd hc (Nat.not_lt_zero c)⟩, ⟨(e57 14).trans f14, (e57 15).trans f15⟩, ?_, ?_, ?_, ?_⟩
    · exact ((l1.of (k2 65 4 (by omega) (by omega) (by omega) (by omega)) (funext fun k => k2 66 k (by omega) (by omega) (by omega) (by omega)) (funext fun k => k2 67 k (by omega) (by omega) (by omega) (by omega))).of (k3 65 4 (by omega) (by omega) (by omega) (by omega)) (funext fun k => k3 66 k (by omega) (by omega) (by omega) (by omega)) (funext fun k => k3 67 k (by omega) (by omega) (by omega) (by omega))).of (k4 65 4 (by omega) (by omega) (by omega) (by omega)) (funext fun k => k4 66 k (by omega) (by omega) (by omega) (by omega)) (funext fun k => k4 67 k (by omega) (by omega) (by omega) (by omega))
    · exact (l2.of (k3 69 4 (by omega) (by omega) (by omega) (by omega)) (funext fun k => k3 70 k (by omega) (by omega) (by omega) (by omega)) (funext fun k => k3 71 k (by omega) (by omega) (by omega) (by omega))).of (k4 69 4 (by omega) (by omega) (by omega) (by omega)) (funext fun k => k4 70 k (by omega) (by omega) (by omega) (by omega)) (funext fun k => k4 71 k (by omega) (by omega) (by omega) (by omega))
    · exact l3.of (k4 73 4 (by omega) (by omega) (by omega) (by omega)) (funext fun k => k4 74 k (by omega) (by omega) (by omega) (by omega)) (funext fun k => k4 75 k (by omega) (by omega) (by omega) (by omega))
    · exact l4
  exact ab_rV ok_Te_clear rfl (⟨rfl, s4, rfl, hall, hD⟩)
theorem t_Re_parse (hT : TC s t K P v nm) {N : Nat} (hN : s 3 4 = nI N) (hN1 : 1 ≤ N) (hN4 : N ≤ 401) (hz : ∃ z, z ≤ 400 ∧ s 8 5 = nI z) : ab_T g_Re_parse (d + 25) (0, 0) [.ref 8, .ref 57] (HA fm X s t) (fun r h => r = some (.int (nI (rdN (topT K v nm 401 0 tx0)))) ∧ rdN (topT K v nm 401 0 tx0) ≤ 5 ∧ ∃ s' t', h = HA fm X s' t' ∧ KR s s' ∧ KRt t t' ∧ (∃ z, z ≤ 400 ∧ s' 8 5 = nI z) ∧ (rdN (topT K v nm 401 0 tx0) ≠ 0 → s' 8 6 = nI (rdP P (topT K v nm 401 0 tx0))) ∧ (∀ a, topT K v nm 401 0 tx0 = .inl a → DrC s' t' a.2) ∧ ∀ e, topT K v nm 401 0 tx0 = .inr e → e.1 ≠ 0) := by
  obtain ⟨F, hF⟩ : ∃ F, F = topT K v nm 401 0 tx0 := ⟨_, rfl⟩
  rw [← hF]
  generalize hPo : (fun r h => r = some (.int (nI (rdN F))) ∧ rdN F ≤ 5 ∧ ∃ s' t', h = HA fm X s' t' ∧ KR s s' ∧ KRt t t' ∧ (∃ z, z ≤ 400 ∧ s' 8 5 = nI z) ∧ (rdN F ≠ 0 → s' 8 6 = nI (rdP P F)) ∧ (∀ a, F = .inl a → DrC s' t' a.2) ∧ ∀ e, F = .inr e → e.1 ≠ 0 : Option Value → ab_H → Prop) = Po
  have hgd0 : gdT K 0 := ⟨Nat.zero_le _, fun m hm => absurd hm (by omega)⟩
  have last : ∀ s1 t1 l2, KR s s1 → KRt t t1 → Rd s1 K (mpT Prod.fst F) → (∃ l', Lt s1 l') → (∀ a, F = .inl a → DrC s1 t1 a.2 ∧ Lt s1 (xLt a.2) ∧ LtP (xLt a.2) a.1) → ab_Z m_Re_parse (d + 25) (0, 0) Po 33 [some (.ref 8), some (.ref 57), l2] [] (HA fm X s1 t1) := by
    intro s1 t1 l2 k1 k2 hR1 hl1 hq
    have hT1 := hT.k k1 k2
    refine ab_go ok_Re_parse 5 rfl ?_
    show ab_Z m_Re_parse _ _ _ 38 [_, _, _] [_, _, _] _
    cases hFc : F with
    | inr e =>
      rw [hFc] at hR1 hPo
      obtain ⟨a1, a2, a3, a4⟩ := hR1
      rw [a2]
      refine ab_br ok_Re_parse rfl rfl ?_ ?_
      · intro h1
        show ab_Z m_Re_parse _ _ _ 39 [_, _, _] [_, _] _
        exact absurd h1 (nI_ne0 (by omega) (by omega))
      · intro h1
        show ab_Z m_Re_parse _ _ _ 42 [_, _, _] [_, _] _
        refine ab_go ok_Re_parse 2 rfl ?_
        show ab_Z m_Re_parse _ _ _ 44 [_, _, _] [_, _, _] _
        rw [a1]
        refine ab_cl ok_Re_parse rfl [_, _] [_] rfl ⟨_, _, rfl, rfl, Or.inl ⟨_, _, rfl, rfl⟩⟩ (Nat.le_of_ble_eq_true rfl) (t_To_placeAt (d + 24) fm X s1 t1 a4.1) ?_
        rintro _ _ ⟨rfl, rfl⟩
        show ab_Z m_Re_parse _ _ _ 45 [_, _, _] [_, _] _
        rw [(hT1.1 e.2 a4).2.1]
        refine ab_go ok_Re_parse 3 rfl ?_
        show ab_Z m_Re_parse _ _ _ 48 [_, _, _] [_] _
        rw [show ab_up s1 8 6 (nI (P e.2)) 8 3 = nI e.1 from by rw [ab_up_n (by decide)]; exact a2]
        refine ab_br ok_Re_parse rfl rfl ?_ ?_
        · intro h2
          show ab_Z m_Re_parse _ _ _ 49 [_, _, _] [] _
          exact absurd h2 (nI_ne0 (by omega) (by omega))
        · intro h2
          show ab_Z m_Re_parse _ _ _ 52 [_, _, _] [] _
          refine ab_go ok_Re_parse 2 rfl ?_
          show ab_Z m_Re_parse _ _ _ 54 [_, _, _] [_] _
          rw [show ab_up s1 8 6 (nI (P e.2)) 8 3 = nI e.1 from by rw [ab_up_n (by decide)]; exact a2]
          have fin : Po (some (.int (nI e.1))) (HA fm X (ab_up s1 8 6 (nI (P e.2))) t1) := by
            rw [← hPo]
            refine ⟨rfl, show e.1 ≤ 5 by omega, _, _, rfl, fun c k h3 h4 => by rw [ab_up_o h3]; exact k1 c k h3 h4, k2, ?_, fun _ => ab_up_s .., fun a ha => (by cases ha), fun e' he => by cases he; omega⟩
            obtain ⟨l1, hl1⟩ := hl1
            obtain ⟨z, z1, z2⟩ := hl1.2.2.1
            exact ⟨z, z1, by rw [ab_up_n (by decide)]; exact z2⟩
          exact ab_rI ok_Re_parse rfl (fin)
    | inl q =>
      obtain ⟨hD, hl, hlp⟩ := hq q hFc
      rw [hFc] at hR1 hPo
      obtain ⟨a1, a2, a3, a4⟩ := hR1
      obtain ⟨z, z1, z2⟩ := hl.2.2.1
      rw [a3]
      refine ab_go ok_Re_parse 1 rfl ?_
      show ab_Z m_Re_parse _ _ _ 39 [_, _, _] [_, _] _
      refine ab_go ok_Re_parse 3 rfl ?_
      show ab_Z m_Re_parse _ _ _ 44 [_, _, _] [_, _, _] _
      rw [z2]
      refine ab_cl ok_Re_parse rfl [_, _] [_] rfl ⟨_, _, rfl, rfl, Or.inl ⟨_, _, rfl, rfl⟩⟩ (Nat.le_of_ble_eq_true rfl) (t_To_placeAt (d + 24) fm X s1 t1 z1) ?_
      rintro _ _ ⟨rfl, rfl⟩
      show ab_Z m_Re_parse _ _ _ 45 [_, _, _] [_, _] _
      refine ab_go ok_Re_parse 3 rfl ?_
      show ab_Z m_Re_parse _ _ _ 48 [_, _, _] [_] _
      rw [show ab_up s1 8 6 (s1 5 z) 8 3 = 0 from by rw [ab_up_n (by decide)]; exact a3]
      refine ab_go ok_Re_parse 1 rfl ?_
      show ab_Z m_Re_parse _ _ _ 49 [_, _, _] [] _
      refine ab_go ok_Re_parse 3 rfl ?_
      show ab_Z m_Re_parse _ _ _ 54 [_, _, _] [_] _
      rw [show ab_up s1 8 6 (s1 5 z) 8 4 = nI (xLt q.2).1 from by rw [ab_up_n (by decide)]; exact hl.1]
      have fin : Po (some (.int (nI (xLt q.2).1))) (HA fm X (ab_up s1 8 6 (s1 5 z)) t1) := by
        rw [← hPo]
        refine ⟨rfl, hl.2.1, _, _, rfl, fun c k h3 h4 => by rw [ab_up_o h3]; exact k1 c k h3 h4, k2, ⟨z, z1, by rw [ab_up_n (by decide)]; exact z2⟩, fun hne => ?_, fun a ha => (by cases ha; exact hD.l (fun c k hc => by rw [ab_up_o hc])), fun e he => by cases he⟩
        obtain ⟨h5, h6⟩ := hl.2.2.2 hne
        have hzl : z = (xLt q.2).2 := (nI_eq (by omega) (by omega)).mp (z2.symm.trans h5)
        rw [ab_up_s, hzl, (hT1.1 _ (gd_le a4 (hlp hne))).2.1]
        rfl
      exact ab_rI ok_Re_parse rfl (fin)
  refine ab_T_of (M := m_Re_parse) rfl rfl (Nat.le_of_ble_eq_true rfl) ?_
  show ab_Z m_Re_parse _ _ _ 0 [_, _, _] [] _
  refine ab_go ok_Re_parse 1 rfl ?_
  show ab_Z m_Re_parse _ _ _ 1 [_, _, _] [_] _
  refine ab_cl ok_Re_parse rfl [_] [] rfl ⟨_, _, rfl, rfl, Or.inl ⟨_, _, rfl, rfl⟩⟩ (Nat.le_of_ble_eq_true rfl) (t_Te_clear (d + 22) fm X s t) ?_
  rintro _ _ ⟨rfl, s0, rfl, k0, hD0⟩
  show ab_Z m_Re_parse _ _ _ 2 [_, _, _] [] _
  have kR0 : KR s s0 := fun c k h1 h2 => k0 c k (by omega) (by omega) (by omega)
  have hT0 := hT.k kR0 (KRt.rf t)
  refine ab_go ok_Re_parse 7 rfl ?_
  show ab_Z m_Re_parse _ _ _ 9 [_, _, _] [_, _, _] _
  refine ab_cl ok_Re_parse rfl [_, _] [_] rfl ⟨_, _, rfl, rfl, Or.inl ⟨_, _, rfl, rfl⟩⟩ (Nat.le_of_ble_eq_true rfl) (t_To_kindAt (d + 24) fm X (ab_up s0 8 1 0) t (n := 0) (N := N) (by rw [ab_up_o (by decide), k0 3 4 (by omega) (by omega) (by omega)]; exact hN) hN4 (by omega)) ?_
  rintro _ _ ⟨rfl, rfl⟩
  show ab_Z m_Re_parse _ _ _ 10 [_, _, _] [_, _] _
  rw [show ab_up s0 8 1 0 4 0 = nI (K 0) from by rw [ab_up_o (by decide)]; exact (hT0.1 0 hgd0).1]
  refine ab_go ok_Re_parse 9 rfl ?_
  show ab_Z m_Re_parse _ _ _ 19 [_, _, _] [] _
  obtain ⟨sA, hsA⟩ : ∃ sA, sA = ab_up (ab_up (ab_up (ab_up s0 8 1 0) 8 2 (nI (K 0))) 8 3 0) 8 4 0 := ⟨_, rfl⟩
  rw [← hsA]
  have kA : KL s0 sA := fun c k hc => by rw [hsA, ab_up_o hc, ab_up_o hc, ab_up_o hc, ab_up_o hc]
  have hRA : Rd sA K (.inl 0) := ⟨by rw [hsA]; rfl, by rw [hsA]; rfl, by rw [hsA]; rfl, hgd0⟩
  have hlA : Lt sA (xLt tx0) := by
    obtain ⟨z, z1, z2⟩ := hz
    have h5 : sA 8 5 = nI z := by rw [hsA, ab_up_n (by decide), ab_up_n (by decide), ab_up_n (by decide), ab_up_n (by decide), k0 8 5 (by omega) (by omega) (by omega)]; exact z2
    exact ⟨by rw [hsA]; rfl, by decide, ⟨z, z1, h5⟩, fun h => absurd rfl h⟩
  refine lp_dn 401 (fun n => ∀ s1 t1 Z, KR s s1 → KRt t t1 → Rd s1 K (mpT Prod.fst Z) → (∃ l', Lt s1 l') → (∀ a : Nat × Tx, Z = .inl a → DrC s1 t1 a.2 ∧ Lt s1 (xLt a.2) ∧ LtP (xLt a.2) a.1) → (bnd Z fun q => topT K v nm (401 - n) q.1 q.2) = F → ab_Z m_Re_parse (d + 25) (0, 0) Po 19 [some (.ref 8), some (.ref 57), some (.int (nI n))] [] (HA fm X s1 t1)) ?_ ?_ sA t (.inl (0, tx0)) (kR0.tr kA.r) (KRt.rf t) hRA ⟨_, hlA⟩ (fun a ha => by cases ha; exact ⟨hD0.l kA, hlA, fun h => absurd rfl h⟩) (by rw [hF]; rfl)
  · intro s1 t1 Z k1 k2 hR1 hl1 hq hFe
    have hZF : Z = F := by
      rw [← hFe]
      cases Z <;> rfl
    rw [hZF] at hR1 hq
    refine ab_go ok_Re_parse 2 rfl ?_
    show ab_Z m_Re_parse _ _ _ 21 [_, _, _] [_, _] _
    refine ab_go ok_Re_parse 1 rfl ?_
    show ab_Z m_Re_parse _ _ _ 33 [_, _, _] [] _
    exact last s1 t1 _ k1 k2 hR1 hl1 hq
  · intro n hn ih s1 t1 Z k1 k2 hR1 hl1 hq hFe
    have hT1 := hT.k k1 k2
    refine ab_go ok_Re_parse 2 rfl ?_
    show ab_Z m_Re_parse _ _ _ 21 [_, _, _] [_, _] _
    refine ab_br ok_Re_parse rfl rfl ?_ ?_
    · intro h1
      show ab_Z m_Re_parse _ _ _ 33 [_, _, _] [] _
      have := i_ltK (z := 400) rfl h1
      rw [nI_t (by omega)] at this
      omega
    · intro h1
      show ab_Z m_Re_parse _ _ _ 22 [_, _, _] [] _
      refine ab_go ok_Re_parse 2 rfl ?_
      show ab_Z m_Re_parse _ _ _ 24 [_, _, _] [_] _
      cases hZc : Z with
      | inr e =>
        rw [hZc] at hR1 hFe
        have hFE : F = .inr e := by rw [← hFe]; rfl
        obtain ⟨a1, a2, a3, a4⟩ := hR1
        rw [a2]
        refine ab_br ok_Re_parse rfl rfl ?_ ?_
        · intro h2
          show ab_Z m_Re_parse _ _ _ 25 [_, _, _] [] _
          exact absurd h2 (nI_ne0 (by omega) (by omega))
        · intro h2
          show ab_Z m_Re_parse _ _ _ 33 [_, _, _] [] _
          exact last s1 t1 _ k1 k2 (by rw [hFE]; exact ⟨a1, a2, a3, a4⟩) hl1 (fun a ha => by rw [hFE] at ha; cases ha)
      | inl q =>
        rw [hZc] at hR1 hFe
        obtain ⟨hD, hl, hlp⟩ := hq q hZc
        have hR1' : Rd s1 K (.inl q.1) := hR1
        obtain ⟨a1, a2, a3, a4⟩ := hR1'
        have hKq := hT.2.1 q.1
        rw [a3]
        refine ab_go ok_Re_parse 1 rfl ?_
        show ab_Z m_Re_parse _ _ _ 25 [_, _, _] [] _
        refine ab_go ok_Re_parse 2 rfl ?_
        show ab_Z m_Re_parse _ _ _ 27 [_, _, _] [_] _
        rw [show s1 8 2 = nI (K q.1) from a2]
        rw [bnd_l, show 401 - n = (401 - (n + 1)) + 1 by omega, topT] at hFe
        refine ab_br ok_Re_parse rfl rfl ?_ ?_
        · intro h2
          show ab_Z m_Re_parse _ _ _ 33 [_, _, _] [] _
          have h2' : K q.1 = 0 := (nI_z (by omega)).mp h2
          rw [if_pos h2'] at hFe
          exact last s1 t1 _ k1 k2 (by rw [← hFe]; exact hR1) hl1 (fun a ha => by rw [← hFe] at ha; cases ha; exact ⟨hD, hl, hlp⟩)
        · intro h2
          show ab_Z m_Re_parse _ _ _ 28 [_, _, _] [] _
          have h2' : ¬ K q.1 = 0 := fun z => h2 (by rw [z]; rfl)
          rw [if_neg h2'] at hFe
          refine ab_go ok_Re_parse 2 rfl ?_
          show ab_Z m_Re_parse _ _ _ 30 [_, _, _] [_, _] _
          refine ab_cl ok_Re_parse rfl [_, _] [] rfl ⟨_, _, rfl, rfl, Or.inl ⟨_, _, rfl, rfl⟩⟩ (Nat.le_of_ble_eq_true rfl) (t_Re_parseTell d fm X s1 t1 hT1 hR1 hD hl) ?_
          rintro _ _ ⟨rfl, s2, t2, rfl, k3, k4, hR2, hl2, hq2⟩
          show ab_Z m_Re_parse _ _ _ 31 [_, _, _] [] _
          refine ab_go ok_Re_parse 2 rfl ?_
          show ab_Z m_Re_parse _ _ _ 19 [_, _, _] [] _
          rw [← nI_succ]
          exact ih s2 t2 _ (k1.tr k3) (k2.tr k4) hR2 hl2 (fun a ha => ⟨(hq2 a ha).1, (hq2 a ha).2, (tel_P a4.1 ha hlp).2⟩) hFe
end

