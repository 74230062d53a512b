/-! a reading that is good: the texts change places -/
def roB (fm : Value) : Nat → Nat → Value := ab_up (roA fm) 9 3 (.ref 57)
def roC (fm : Value) : Nat → Nat → Value := ab_up (roB fm) 0 8 (.ref 14)
abbrev HB (fm : Value) (X : Nat × (Nat → Int32)) (s : Nat → Nat → Int32) (t : Nat → Nat → Int64) : ab_H := (shA, s, t, roB fm, X)
abbrev HC (fm : Value) (X : Nat × (Nat → Int32)) (s : Nat → Nat → Int32) (t : Nat → Nat → Int64) : ab_H := (shA, s, t, roC fm, X)
theorem ab_pr {M : ab_M} (ok : ab_ok M 0 (ab_cd M)) {d : Nat} {b : Nat × Nat} {Po : Option Value → ab_H → Prop} {i nx : Nat} {L : ab_L} {sh : List (Nat × Nat)} {sg : Nat → Nat → Int32} {ta : Nat → Nat → Int64} {ro : Nat → Nat → Value} {xx : Nat × (Nat → Int32)} {a v ci k n : Nat} {r : List Value} (hA : (ab_cd M)[i]? = some (.inl (aPR ci k nx))) (hs : sh[a]? = some (ci + 10, n)) (hk : k < n) (hv : v < sh.length) (k1 : ab_Z M d b Po nx (ab_mk M nx L) r (sh, sg, ta, ab_up ro a k (.ref v), xx)) : ab_Z M d b Po i L (.ref v :: .ref a :: r) (sh, sg, ta, ro, xx) := by
  refine ab_okat ok hA d b Po L _ _ nx L r (sh, sg, ta, ab_up ro a k (.ref v), xx) ?_ (ab_Z.mask k1)
  simp only [aPR, hs]
  rw [show Nat.beq (ci + 10) (ci + 10) = true from Nat.beq_refl _, show Nat.blt k n = true from Nat.blt_eq.mpr hk, show Nat.blt v sh.length = true from Nat.blt_eq.mpr hv]
  rfl
theorem shA_len : shA.length = 129 := by decide +kernel
abbrev PSB (fm : Value) (X : Nat × (Nat → Int32)) (s : Nat → Nat → Int32) (t : Nat → Nat → Int64) (r : Nat → Int32) (n : Nat) : Option Value → ab_H → Prop := fun v h => v = none ∧ ∃ s', h = HB fm X s' t ∧ Sn s s' r n
section
variable (d : Nat) (fm : Value) (X : Nat × (Nat → Int32)) (s : Nat → Nat → Int32) (t : Nat → Nat → Int64)
theorem b_SF_put_11 (i : Int32) (k : Nat) (v : Int32) (hk : k < 40) (hi : i = nI k) : ab_T g_SF_put d (0, 0) [.ref 11, .int i, .int v] (HB fm X s t) (PV (HB fm X (ab_up s 11 k v) t)) := by
  subst hi
  refine ab_T_of (M := m_SF_put) rfl rfl (Nat.le_of_ble_eq_true rfl) ?_
  show ab_Z m_SF_put _ _ _ 0 [_, _, _] [] _
  refine ab_go ok_SF_put 1 rfl ?_
  show ab_Z m_SF_put _ _ _ 1 [_, _, _] [_] _
  refine ab_br ok_SF_put rfl rfl ?_ ?_
  · intro hc
    show ab_Z m_SF_put _ _ _ 10 [_, _, _] [] _
    exact absurd hc (nI_l0 (by omega))
  · intro hc
    show ab_Z m_SF_put _ _ _ 2 [_, _, _] [] _
    refine ab_go ok_SF_put 3 rfl ?_
    show ab_Z m_SF_put _ _ _ 5 [_, _, _] [_, _] _
    refine ab_br ok_SF_put rfl rfl ?_ ?_
    · intro hd
      show ab_Z m_SF_put _ _ _ 10 [_, _, _] [] _
      exact absurd hd (nI_ge hk (by decide))
    · intro hd
      show ab_Z m_SF_put _ _ _ 6 [_, _, _] [] _
      refine ab_go ok_SF_put 3 rfl ?_
      show ab_Z m_SF_put _ _ _ 9 [_, _, _] [_, _, _] _
      refine ab_ck ok_SF_put rfl rfl (by rw [nI_t (by omega)]; omega) ?_
      show ab_Z m_SF_put _ _ _ 10 [_, _, _] [] _
      rw [nI_c (by omega)]
      exact ab_rV ok_SF_put rfl (⟨rfl, rfl⟩)
theorem b_SF_at_60 (i : Int32) (k : Nat) (hk : k < 15) (hi : i = nI k) : ab_T g_SF_at d (0, 0) [.ref 60, .int i] (HB fm X s t) (PI (s 60 k) (HB fm X s t)) := by
  subst hi
  refine ab_T_of (M := m_SF_at) rfl rfl (Nat.le_of_ble_eq_true rfl) ?_
  show ab_Z m_SF_at _ _ _ 0 [_, _] [] _
  refine ab_go ok_SF_at 1 rfl ?_
  show ab_Z m_SF_at _ _ _ 1 [_, _] [_] _
  refine ab_br ok_SF_at rfl rfl ?_ ?_
  · intro hc
    show ab_Z m_SF_at _ _ _ 10 [_, _] [] _
    exact absurd hc (nI_l0 (by omega))
  · intro hc
    show ab_Z m_SF_at _ _ _ 2 [_, _] [] _
    refine ab_go ok_SF_at 3 rfl ?_
    show ab_Z m_SF_at _ _ _ 5 [_, _] [_, _] _
    refine ab_br ok_SF_at rfl rfl ?_ ?_
    · intro hd
      show ab_Z m_SF_at _ _ _ 10 [_, _] [] _
      exact absurd hd (nI_ge hk (by decide))
    · intro hd
      show ab_Z m_SF_at _ _ _ 6 [_, _] [] _
      refine ab_go ok_SF_at 2 rfl ?_
      show ab_Z m_SF_at _ _ _ 8 [_, _] [_, _] _
      refine ab_ck ok_SF_at rfl rfl (by rw [nI_t (by omega)]; omega) ?_
      show ab_Z m_SF_at _ _ _ 9 [_, _] [_] _
      refine ab_go ok_SF_at 1 rfl ?_
      show ab_Z m_SF_at _ _ _ 11 [_, _] [_] _
      exact ab_rI ok_SF_at rfl (⟨by rw [nI_c (by omega)], rfl⟩)
theorem b_Sc_setLevel {c f : Nat} (v : Int32) (hc : c < 5) (hf : f < 3) : ab_T g_Sc_setLevel (d + 1) (0, 0) [.ref 10, .int (nI c), .int (nI f), .int v] (HB fm X s t) (PV (HB fm X (upSt (ab_up s 11 (3 * c + f) v)) t)) := by
  refine ab_T_of (M := m_Sc_setLevel) rfl rfl (Nat.le_of_ble_eq_true rfl) ?_
  show ab_Z m_Sc_setLevel _ _ _ 0 [_, _, _, _] [] _
  refine ab_go ok_Sc_setLevel 8 rfl ?_
  show ab_Z m_Sc_setLevel _ _ _ 8 [_, _, _, _] [_, _, _] _
  refine ab_cl ok_Sc_setLevel rfl [_, _, _] [] rfl rfl (Nat.le_of_ble_eq_true rfl) (b_SF_put_11 d fm X s t _ (3 * c + f) v (by omega) (by rw [L3, pk_mul, nI_add, Nat.mul_comm])) ?_
  rintro _ _ ⟨rfl, rfl⟩
  show ab_Z m_Sc_setLevel _ _ _ 9 [_, _, _, _] [] _
  refine ab_go ok_Sc_setLevel 6 rfl ?_
  show ab_Z m_Sc_setLevel _ _ _ 15 [_, _, _, _] [] _
  exact ab_rV ok_Sc_setLevel rfl (⟨rfl, rfl⟩)
theorem b_Sc_setPrint {c f : Nat} (v : Int32) (hc : c < 6) (hf : f < 3) : ab_T g_Sc_setPrint (d + 1) (0, 0) [.ref 10, .int (nI c), .int (nI f), .int v] (HB fm X s t) (PV (HB fm X (upSt (ab_up s 11 (15 + 3 * c + f) v)) t)) := by
  refine ab_T_of (M := m_Sc_setPrint) rfl rfl (Nat.le_of_ble_eq_true rfl) ?_
  show ab_Z m_Sc_setPrint _ _ _ 0 [_, _, _, _] [] _
  refine ab_go ok_Sc_setPrint 10 rfl ?_
  show ab_Z m_Sc_setPrint _ _ _ 10 [_, _, _, _] [_, _, _] _
  refine ab_cl ok_Sc_setPrint rfl [_, _, _] [] rfl rfl (Nat.le_of_ble_eq_true rfl) (b_SF_put_11 d fm X s t _ (15 + 3 * c + f) v (by omega) (by rw [L3, L15, pk_mul, nI_add, nI_add, Nat.mul_comm])) ?_
  rintro _ _ ⟨rfl, rfl⟩
  show ab_Z m_Sc_setPrint _ _ _ 11 [_, _, _, _] [] _
  refine ab_go ok_Sc_setPrint 6 rfl ?_
  show ab_Z m_Sc_setPrint _ _ _ 17 [_, _, _, _] [] _
  exact ab_rV ok_Sc_setPrint rfl (⟨rfl, rfl⟩)
theorem b_Sc_setSealer {c : Nat} (v : Int32) (hc : c < 6) : ab_T g_Sc_setSealer (d + 1) (0, 0) [.ref 10, .int (nI c), .int v] (HB fm X s t) (PV (HB fm X (upSt (ab_up s 11 (33 + c) v)) t)) := by
  refine ab_T_of (M := m_Sc_setSealer) rfl rfl (Nat.le_of_ble_eq_true rfl) ?_
  show ab_Z m_Sc_setSealer _ _ _ 0 [_, _, _] [] _
  refine ab_go ok_Sc_setSealer 6 rfl ?_
  show ab_Z m_Sc_setSealer _ _ _ 6 [_, _, _] [_, _, _] _
  refine ab_cl ok_Sc_setSealer rfl [_, _, _] [] rfl rfl (Nat.le_of_ble_eq_true rfl) (b_SF_put_11 d fm X s t _ (33 + c) v (by omega) (by rw [L33, nI_add])) ?_
  rintro _ _ ⟨rfl, rfl⟩
  show ab_Z m_Sc_setSealer _ _ _ 7 [_, _, _] [] _
  refine ab_go ok_Sc_setSealer 6 rfl ?_
  show ab_Z m_Sc_setSealer _ _ _ 13 [_, _, _] [] _
  exact ab_rV ok_Sc_setSealer rfl (⟨rfl, rfl⟩)
theorem b_Sc_setYear (v : Int32) : ab_T g_Sc_setYear d (0, 0) [.ref 10, .int v] (HB fm X s t) (PV (HB fm X (upSt (ab_up s 11 39 v)) t)) := by
  refine ab_T_of (M := m_Sc_setYear) rfl rfl (Nat.le_of_ble_eq_true rfl) ?_
  show ab_Z m_Sc_setYear _ _ _ 0 [_, _] [] _
  refine ab_go ok_Sc_setYear 4 rfl ?_
  show ab_Z m_Sc_setYear _ _ _ 4 [_, _] [_, _, _] _
  refine ab_go ok_Sc_setYear 1 rfl ?_
  show ab_Z m_Sc_setYear _ _ _ 5 [_, _] [] _
  refine ab_go ok_Sc_setYear 6 rfl ?_
  show ab_Z m_Sc_setYear _ _ _ 11 [_, _] [] _
  exact ab_rV ok_Sc_setYear rfl (⟨rfl, rfl⟩)
theorem b_Te_firstOf {c f : Nat} (hc : c < 5) (hf : f < 3) : ab_T g_Te_firstOf (d + 1) (0, 0) [.ref 57, .int (nI c), .int (nI f)] (HB fm X s t) (PI (s 60 (3 * c + f)) (HB fm X s t)) := by
  refine ab_T_of (M := m_Te_firstOf) rfl rfl (Nat.le_of_ble_eq_true rfl) ?_
  show ab_Z m_Te_firstOf _ _ _ 0 [_, _, _] [] _
  refine ab_go ok_Te_firstOf 7 rfl ?_
  show ab_Z m_Te_firstOf _ _ _ 7 [_, _, _] [_, _] _
  refine ab_cl ok_Te_firstOf rfl [_, _] [] rfl rfl (Nat.le_of_ble_eq_true rfl) (b_SF_at_60 d fm X s t _ (3 * c + f) (by omega) (by rw [L3, pk_mul, nI_add, Nat.mul_comm])) ?_
  rintro _ _ ⟨rfl, rfl⟩
  show ab_Z m_Te_firstOf _ _ _ 8 [_, _, _] [_] _
  exact ab_rI ok_Te_firstOf rfl (⟨rfl, rfl⟩)
theorem b_Ha_putOpen {e : Nat} (he : e < 6) : ab_T g_Ha_putOpen (d + 2) (0, 0) [.ref 9, .int (nI e)] (HB fm X s t) (PSB fm X s t (upd (fillR (s 11) (15 + 3 * e) 3 (fun _ => 0)) (33 + e) (-2)) 4) := by
  refine ab_T_of (M := m_Ha_putOpen) rfl rfl (Nat.le_of_ble_eq_true rfl) ?_
  show ab_Z m_Ha_putOpen _ _ _ 0 [_, _, _] [] _
  refine ab_go ok_Ha_putOpen 2 rfl ?_
  show ab_Z m_Ha_putOpen _ _ _ 2 [_, _, _] [] _
  refine lp_dn 3 (fun k => ∀ s1, Sn s s1 (fillR (s 11) (15 + 3 * e) k (fun _ => 0)) k → ab_Z m_Ha_putOpen (d + 2) (0, 0) (PSB fm X s t (upd (fillR (s 11) (15 + 3 * e) 3 (fun _ => 0)) (33 + e) (-2)) 4) 2 [some (.ref 9), some (.int (nI e)), some (.int (nI k))] [] (HB fm X s1 t)) ?_ ?_ s (by rw [fillR_0]; exact Sn.rf s)
  · intro s1 hs
    refine ab_go ok_Ha_putOpen 2 rfl ?_
    show ab_Z m_Ha_putOpen _ _ _ 4 [_, _, _] [_, _] _
    refine ab_go ok_Ha_putOpen 1 rfl ?_
    show ab_Z m_Ha_putOpen _ _ _ 13 [_, _, _] [] _
    refine ab_go ok_Ha_putOpen 4 rfl ?_
    show ab_Z m_Ha_putOpen _ _ _ 17 [_, _, _] [_, _, _] _
    refine ab_cl ok_Ha_putOpen rfl [_, _, _] [] rfl ⟨_, _, rfl, rfl, Or.inl ⟨_, _, rfl, rfl⟩⟩ (Nat.le_of_ble_eq_true rfl) (b_Sc_setSealer d fm X s1 t _ he) ?_
    rintro _ _ ⟨rfl, rfl⟩
    show ab_Z m_Ha_putOpen _ _ _ 18 [_, _, _] [] _
    exact ab_rV ok_Ha_putOpen rfl (⟨rfl, _, rfl, hs.up⟩)
  · intro k hk ih s1 hs
    refine ab_go ok_Ha_putOpen 2 rfl ?_
    show ab_Z m_Ha_putOpen _ _ _ 4 [_, _, _] [_, _] _
    refine ab_br ok_Ha_putOpen rfl rfl ?_ ?_
    · intro h1
      show ab_Z m_Ha_putOpen _ _ _ 13 [_, _, _] [] _
      exact absurd h1 (lp_in (N := 3) (by decide) hk)
    · intro h1
      show ab_Z m_Ha_putOpen _ _ _ 5 [_, _, _] [] _
      refine ab_go ok_Ha_putOpen 5 rfl ?_
      show ab_Z m_Ha_putOpen _ _ _ 10 [_, _, _] [_, _, _, _] _
      refine ab_cl ok_Ha_putOpen rfl [_, _, _, _] [] rfl ⟨_, _, rfl, rfl, Or.inl ⟨_, _, rfl, rfl⟩⟩ (Nat.le_of_ble_eq_true rfl) (b_Sc_setPrint d fm X s1 t _ he hk) ?_
      rintro _ _ ⟨rfl, rfl⟩
      show ab_Z m_Ha_putOpen _ _ _ 11 [_, _, _] [] _
      refine ab_go ok_Ha_putOpen 2 rfl ?_
      show ab_Z m_Ha_putOpen _ _ _ 2 [_, _, _] [] _
      have ih2 := ih _ (by have h9 := hs.up (j := 15 + 3 * e + k) (v := 0); rw [fillR_s (s 11) (15 + 3 * e) k (fun _ => 0)] at h9; exact h9)
      rw [nI_succ] at ih2
      exact ih2
/-- the row of a text that begins, its first levels given -/
def begR (g : Nat → Int32) (j : Nat) : Int32 := if j < 15 then g j else if 33 ≤ j ∧ j < 39 then -2 else 0
theorem t_Ha_begin : ab_T g_Ha_begin (d + 3) (0, 0) [.ref 9, .ref 57] (HA fm X s t) (fun v h => v = some (.ref 14) ∧ ∃ s' r, h = HB fm X s' t ∧ Sn s s' r 40 ∧ ∀ j, j < 40 → r j = begR (s 60) j) := by
  generalize hPo : (fun v h => v = some (.ref 14) ∧ ∃ s' r, h = HB fm X s' t ∧ Sn s s' r 40 ∧ ∀ j, j < 40 → r j = begR (s 60) j : Option Value → ab_H → Prop) = Po
  refine ab_T_of (M := m_Ha_begin) rfl rfl (Nat.le_of_ble_eq_true rfl) ?_
  show ab_Z m_Ha_begin _ _ _ 0 [_, _, _, _, _] [] _
  refine ab_go ok_Ha_begin 5 rfl ?_
  show ab_Z m_Ha_begin _ _ _ 5 [_, _, _, _, _] [_, _] _
  refine ab_pr ok_Ha_begin rfl rfl (by decide) (by rw [shA_len]; decide) ?_
  show ab_Z m_Ha_begin _ _ _ 6 [_, _, _, _, _] [] _
  refine ab_go ok_Ha_begin 2 rfl ?_
  show ab_Z m_Ha_begin _ _ _ 8 [_, _, _, _, _] [] _
  have main := lp_dn 5 (fun c => ∀ s1 r, Sn s s1 r (3 * c) → (∀ j, j < 3 * c → r j = s 60 j) → ab_Z m_Ha_begin (d + 3) (0, 0) Po 8 [some (.ref 9), none, some (.ref 14), some (.int (nI c)), none] [] (HB fm X s1 t)) ?_ ?_
  · exact main s (s 11) (Sn.rf s) (fun j hj => absurd hj (by omega))
  · intro s1 r hs hr
    refine ab_go ok_Ha_begin 2 rfl ?_
    show ab_Z m_Ha_begin _ _ _ 10 [_, _, _, _, _] [_, _] _
    refine ab_go ok_Ha_begin 1 rfl ?_
    show ab_Z m_Ha_begin _ _ _ 30 [_, _, _, _, _] [] _
    refine ab_go ok_Ha_begin 2 rfl ?_
    show ab_Z m_Ha_begin _ _ _ 32 [_, _, _, _, _] [] _
    refine lp_dn 6 (fun e => ∀ s1 r, Sn s s1 r (15 + 4 * e) → (∀ j, j < 15 → r j = s 60 j) → (∀ j, 15 ≤ j → j < 15 + 3 * e → r j = 0) → (∀ j, 33 ≤ j → j < 33 + e → r j = -2) → ab_Z m_Ha_begin (d + 3) (0, 0) Po 32 [some (.ref 9), none, some (.ref 14), some (.int (nI e)), none] [] (HB fm X s1 t)) ?_ ?_ s1 r hs hr (fun j a b => absurd b (by omega)) (fun j a b => absurd b (by omega))
    · intro s1 r hs h1 h2 h3
      refine ab_go ok_Ha_begin 2 rfl ?_
      show ab_Z m_Ha_begin _ _ _ 34 [_, _, _, _, _] [_, _] _
      refine ab_go ok_Ha_begin 1 rfl ?_
      show ab_Z m_Ha_begin _ _ _ 40 [_, _, _, _, _] [] _
      refine ab_go ok_Ha_begin 3 rfl ?_
      show ab_Z m_Ha_begin _ _ _ 43 [_, _, _, _, _] [_, _] _
      refine ab_cl ok_Ha_begin rfl [_, _] [] rfl ⟨_, _, rfl, rfl, Or.inl ⟨_, _, rfl, rfl⟩⟩ (Nat.le_of_ble_eq_true rfl) (b_Sc_setYear (d + 2) fm X s1 t _) ?_
      rintro _ _ ⟨rfl, rfl⟩
      show ab_Z m_Ha_begin _ _ _ 44 [_, _, _, _, _] [] _
      refine ab_go ok_Ha_begin 1 rfl ?_
      show ab_Z m_Ha_begin _ _ _ 45 [_, _, _, _, _] [_] _
      have fin : Po (some (.ref 14)) (HB fm X (upSt (ab_up s1 11 39 0)) t) := by
        rw [← hPo]
        refine ⟨rfl, _, _, rfl, hs.up (j := 39) (v := 0), fun j hj => ?_⟩
        unfold upd begR
        by_cases h39 : j = 39
        · rw [if_pos h39, if_neg (by omega), if_neg (by omega)]
        · rw [if_neg h39]
          by_cases h15 : j < 15
          · rw [if_pos h15]; exact h1 j h15
          · rw [if_neg h15]
            by_cases h33 : 33 ≤ j ∧ j < 39
            · rw [if_pos h33]; exact h3 j h33.1 (by omega)
            · rw [if_neg h33]; exact h2 j (by omega) (by omega)
      exact ab_rA ok_Ha_begin rfl fin
    · intro e he ih s1 r hs h1 h2 h3
      refine ab_go ok_Ha_begin 2 rfl ?_
      show ab_Z m_Ha_begin _ _ _ 34 [_, _, _, _, _] [_, _] _
      refine ab_br ok_Ha_begin rfl rfl ?_ ?_
      · intro g1
        show ab_Z m_Ha_begin _ _ _ 40 [_, _, _, _, _] [] _
        exact absurd g1 (lp_in (N := 6) (by decide) he)
      · intro g1
        show ab_Z m_Ha_begin _ _ _ 35 [_, _, _, _, _] [] _
        refine ab_go ok_Ha_begin 2 rfl ?_
        show ab_Z m_Ha_begin _ _ _ 37 [_, _, _, _, _] [_, _] _
        refine ab_cl ok_Ha_begin rfl [_, _] [] rfl ⟨_, _, rfl, rfl, Or.inl ⟨_, _, rfl, rfl⟩⟩ (Nat.le_of_ble_eq_true rfl) (b_Ha_putOpen d fm X s1 t he) ?_
        rintro _ _ ⟨rfl, s2, rfl, hs2⟩
        show ab_Z m_Ha_begin _ _ _ 38 [_, _, _, _, _] [] _
        refine ab_go ok_Ha_begin 2 rfl ?_
        show ab_Z m_Ha_begin _ _ _ 32 [_, _, _, _, _] [] _
        rw [← nI_succ]
        have hs3 := hs.tr hs2
        rw [hs.1] at hs3
        refine ih s2 _ (by rw [show 15 + 4 * (e + 1) = 15 + 4 * e + 4 by omega]; exact hs3) (fun j hj => ?_) (fun j a b => ?_) (fun j a b => ?_)
        · unfold upd
          rw [if_neg (by omega), fillR_o (by omega)]
          exact h1 j hj
        · unfold upd
          rw [if_neg (by omega)]
          by_cases hj : j < 15 + 3 * e
          · rw [fillR_o (by omega)]; exact h2 j a hj
          · unfold fillR
            rw [if_pos (by omega)]
        · unfold upd
          by_cases hj : j = 33 + e
          · rw [if_pos hj]
          · rw [if_neg hj, fillR_o (by omega)]; exact h3 j a (by omega)
  · intro c hc ih s1 r hs hr
    refine ab_go ok_Ha_begin 2 rfl ?_
    show ab_Z m_Ha_begin _ _ _ 10 [_, _, _, _, _] [_, _] _
    refine ab_br ok_Ha_begin rfl rfl ?_ ?_
    · intro g1
      show ab_Z m_Ha_begin _ _ _ 30 [_, _, _, _, _] [] _
      exact absurd g1 (lp_in (N := 5) (by decide) hc)
    · intro g1
      show ab_Z m_Ha_begin _ _ _ 11 [_, _, _, _, _] [] _
      refine ab_go ok_Ha_begin 2 rfl ?_
      show ab_Z m_Ha_begin _ _ _ 13 [_, _, _, _, _] [] _
      refine lp_dn 3 (fun f => ∀ s1 r, Sn s s1 r (3 * c + f) → (∀ j, j < 3 * c + f → r j = s 60 j) → ab_Z m_Ha_begin (d + 3) (0, 0) Po 13 [some (.ref 9), none, some (.ref 14), some (.int (nI c)), some (.int (nI f))] [] (HB fm X s1 t)) ?_ ?_ s1 r hs hr
      · intro s1 r hs hr
        refine ab_go ok_Ha_begin 2 rfl ?_
        show ab_Z m_Ha_begin _ _ _ 15 [_, _, _, _, _] [_, _] _
        refine ab_go ok_Ha_begin 1 rfl ?_
        show ab_Z m_Ha_begin _ _ _ 28 [_, _, _, _, _] [] _
        refine ab_go ok_Ha_begin 2 rfl ?_
        show ab_Z m_Ha_begin _ _ _ 8 [_, _, _, _, _] [] _
        rw [← nI_succ]
        exact ih s1 r hs hr
      · intro f hf ihf s1 r hs hr
        refine ab_go ok_Ha_begin 2 rfl ?_
        show ab_Z m_Ha_begin _ _ _ 15 [_, _, _, _, _] [_, _] _
        refine ab_br ok_Ha_begin rfl rfl ?_ ?_
        · intro g2
          show ab_Z m_Ha_begin _ _ _ 28 [_, _, _, _, _] [] _
          exact absurd g2 (lp_in (N := 3) (by decide) hf)
        · intro g2
          show ab_Z m_Ha_begin _ _ _ 16 [_, _, _, _, _] [] _
          refine ab_go ok_Ha_begin 8 rfl ?_
          show ab_Z m_Ha_begin _ _ _ 24 [_, _, _, _, _] [_, _, _, _, _, _] _
          refine ab_cl ok_Ha_begin rfl [_, _, _] [_, _, _] rfl ⟨_, _, rfl, rfl, Or.inl ⟨_, _, rfl, rfl⟩⟩ (Nat.le_of_ble_eq_true rfl) (b_Te_firstOf (d + 1) fm X s1 t hc hf) ?_
          rintro _ _ ⟨rfl, rfl⟩
          show ab_Z m_Ha_begin _ _ _ 25 [_, _, _, _, _] [_, _, _, _] _
          rw [show s1 60 (3 * c + f) = s 60 (3 * c + f) from hs.2.2 60 _ rfl (by decide) (by decide) (by omega)]
          refine ab_cl ok_Ha_begin rfl [_, _, _, _] [] rfl ⟨_, _, rfl, rfl, Or.inl ⟨_, _, rfl, rfl⟩⟩ (Nat.le_of_ble_eq_true rfl) (b_Sc_setLevel (d + 1) fm X s1 t _ hc hf) ?_
          rintro _ _ ⟨rfl, rfl⟩
          show ab_Z m_Ha_begin _ _ _ 26 [_, _, _, _, _] [] _
          refine ab_go ok_Ha_begin 2 rfl ?_
          show ab_Z m_Ha_begin _ _ _ 13 [_, _, _, _, _] [] _
          rw [← nI_succ]
          refine ihf _ _ (hs.up (j := 3 * c + f) (v := s 60 (3 * c + f))) (fun j hj => ?_)
          unfold upd
          by_cases hjc : j = 3 * c + f
          · rw [if_pos hjc, hjc]
          · rw [if_neg hjc]; exact hr j (by omega)
theorem c_Me_clearAll : ab_T g_Me_clearAll d (0, 0) [.ref 38] (HC fm X s t) (PV (HC fm X (ab_up (ab_up s 38 4 0) 38 2 0) t)) := by
  refine ab_T_of (M := m_Me_clearAll) rfl rfl (Nat.le_of_ble_eq_true rfl) ?_
  show ab_Z m_Me_clearAll _ _ _ 0 [_] [] _
  refine ab_go ok_Me_clearAll 6 rfl ?_
  show ab_Z m_Me_clearAll _ _ _ 6 [_] [] _
  exact ab_rV ok_Me_clearAll rfl (⟨rfl, rfl⟩)
theorem c_Tl_drop : ab_T g_Tl_drop d (0, 0) [.ref 41] (HC fm X s t) (PI (s 41 3) (HC fm X (ab_up s 41 3 0) t)) := by
  refine ab_T_of (M := m_Tl_drop) rfl rfl (Nat.le_of_ble_eq_true rfl) ?_
  show ab_Z m_Tl_drop _ _ _ 0 [_, _] [] _
  refine ab_go ok_Tl_drop 7 rfl ?_
  show ab_Z m_Tl_drop _ _ _ 7 [_, _] [_] _
  exact ab_rI ok_Tl_drop rfl (⟨rfl, rfl⟩)
theorem DrC.z {s s' : Nat → Nat → Int32} {t : Nat → Nat → Int64} {x : Tx} (e : ∀ c, 57 ≤ c → c ≤ 80 → s' c = s c) (hD : DrC s t x) : DrC s' t x := ⟨hD.1.of (by rw [e 57 (by decide) (by decide)]) (e 59 (by decide) (by decide)) (e 60 (by decide) (by decide)) rfl, hD.2.1.of (by rw [e 57 (by decide) (by decide)]) (e 62 (by decide) (by decide)) (e 63 (by decide) (by decide)) rfl, hD.2.2.1.of (by rw [e 57 (by decide) (by decide)]) (e 64 (by decide) (by decide)), hD.2.2.2.1.of (by rw [e 57 (by decide) (by decide)]) (by rw [e 57 (by decide) (by decide)]), hD.2.2.2.2.of (fun c h1 h2 => e c (by omega) h2)⟩
/-- what a reading of the class's tape answers -/
abbrev kOf (b : Nat → Int32) (L : Nat) : Nat → Nat := fun n => tkK b L (tkP b L n)
abbrev vOf (b : Nat → Int32) (L : Nat) : Nat → Nat := fun n => tkV' b L (tkP b L n)
abbrev nOf (b : Nat → Int32) (L : Nat) : Nat → List Nat := fun n => tkN b L (tkP b L n)
abbrev fOf (b : Nat → Int32) (L : Nat) : Rs (Nat × Tx) := topT (kOf b L) (vOf b L) (nOf b L) 401 0 tx0
/-- what the class's reader leaves alone -/
def KC (s s' : Nat → Nat → Int32) : Prop := ∀ c k, c ≠ 8 → ¬ (57 ≤ c ∧ c ≤ 80) → c ≠ 4 → c ≠ 5 → ¬ (c = 3 ∧ k = 4) → ¬ (c = 1 ∧ k = 1) → ¬ (c = 0 ∧ k = 9) → s' c k = s c k
theorem tk_W (b : Nat → Int32) (L : Nat) : TkW (kOf b L) (vOf b L) (nOf b L) := by
  have key : ∀ j, tkK b L j < 277 := fun j => by
    unfold tkK
    split
    · split
      · omega
      · rcases wk_r (ltL b L j (ltE b L j - j)) wdL 0 with h2 | ⟨i, h1, h2, -⟩
        · omega
        · have : wdL.length = 21 := rfl
          omega
    · split
      · split <;> omega
      · split
        · omega
        · split
          · rename_i h1 h2
            unfold chN at h1 ⊢
            split
            · have := byN_lt b j; omega
            · omega
          · omega
  refine ⟨fun n => key _, fun n h => ?_, fun n h => ?_⟩
  · have hj : tkP b L n < L := by
      rcases Nat.lt_or_ge (tkP b L n) L with h1 | h1
      · exact h1
      · rw [show kOf b L n = 0 from tkK_end b h1] at h; omega
    exact tkV_lt hj h
  · have hj : tkP b L n < L := by
      rcases Nat.lt_or_ge (tkP b L n) L with h1 | h1
      · exact h1
      · rw [show kOf b L n = 0 from tkK_end b h1] at h; omega
    have h' : tkK b L (tkP b L n) = 2 := h
    unfold tkK at h'
    split at h'
    · split at h'
      · omega
      · rename_i h8
        exact ⟨ltL_m (lt_E b (by omega)), by show (ltL b L _ _).length ≤ 8; rw [ltL_len]; omega⟩
    · split at h'
      · split at h' <;> omega
      · split at h'
        · omega
        · split at h'
          · rename_i h5
            rw [h'] at h5
            exact absurd h5 (by decide)
          · omega
theorem tk_TC {b : Nat → Int32} {L N : Nat} (h : TkF b L s t N) : TC s t (kOf b L) (tkP b L) (vOf b L) (nOf b L) := by
  refine ⟨fun n hn => ?_, tk_W b L⟩
  have hnN : n < N := by
    rcases Nat.lt_or_ge n N with h1 | h1
    · exact h1
    · have h5 := h.2.2.2.2
      have h2 := h.2.1
      rcases h5 with h5 | h5 | h5
      · have := hn.1; omega
      · exact absurd h5 (hn.2 (N - 1) (by omega)).1
      · exact absurd h5 (hn.2 (N - 1) (by omega)).2
  exact h.1.2 n hnN
theorem t_SF_read {b : Nat → Int32} (hb : b = s 2) {L : Nat} (hW : WdC t) (hL : s 1 1 = nI L) (h2 : L ≤ 2000) (hz : ∃ z, z ≤ 400 ∧ s 8 5 = nI z) : ab_T g_SF_read (d + 26) (0, 0) [.ref 0] (HA fm X s t) (fun v h => v = some (.int (nI (rdN (fOf b L)))) ∧ (rdN (fOf b L) ≠ 0 → ∃ s' t', h = HA fm X s' t' ∧ KC s s' ∧ (∀ c, c ≠ 6 → c ≠ 58 → c ≠ 61 → t' c = t c) ∧ (∃ z, z ≤ 400 ∧ s' 8 5 = nI z) ∧ s' 1 1 = 0 ∧ s' 0 9 = nI (rdP (tkP b L) (fOf b L))) ∧ (rdN (fOf b L) = 0 → ∃ s1 s' t' r, h = HC fm X (ab_up (ab_up (ab_up s' 38 4 0) 38 2 0) 41 3 0) t' ∧ KC s s1 ∧ (∀ c, c ≠ 6 → c ≠ 58 → c ≠ 61 → t' c = t c) ∧ (∃ z, z ≤ 400 ∧ s1 8 5 = nI z) ∧ s1 1 1 = 0 ∧ s1 0 9 = -1 ∧ Sn s1 s' r 40 ∧ (∀ j, j < 40 → r j = begR (s1 60) j) ∧ ∃ q, fOf b L = .inl q ∧ DrC s1 t' q.2)) := by
  generalize hPo : (fun v h => v = some (.int (nI (rdN (fOf b L)))) ∧ (rdN (fOf b L) ≠ 0 → ∃ s' t', h = HA fm X s' t' ∧ KC s s' ∧ (∀ c, c ≠ 6 → c ≠ 58 → c ≠ 61 → t' c = t c) ∧ (∃ z, z ≤ 400 ∧ s' 8 5 = nI z) ∧ s' 1 1 = 0 ∧ s' 0 9 = nI (rdP (tkP b L) (fOf b L))) ∧ (rdN (fOf b L) = 0 → ∃ s1 s' t' r, h = HC fm X (ab_up (ab_up (ab_up s' 38 4 0) 38 2 0) 41 3 0) t' ∧ KC s s1 ∧ (∀ c, c ≠ 6 → c ≠ 58 → c ≠ 61 → t' c = t c) ∧ (∃ z, z ≤ 400 ∧ s1 8 5 = nI z) ∧ s1 1 1 = 0 ∧ s1 0 9 = -1 ∧ Sn s1 s' r 40 ∧ (∀ j, j < 40 → r j = begR (s1 60) j) ∧ ∃ q, fOf b L = .inl q ∧ DrC s1 t' q.2) : Option Value → ab_H → Prop) = Po
  obtain ⟨F, hF⟩ : ∃ F, F = topT (kOf b L) (vOf b L) (nOf b L) 401 0 tx0 := ⟨_, rfl⟩
  rw [show fOf b L = F from hF.symm] at hPo
  refine ab_T_of (M := m_SF_read) rfl rfl (Nat.le_of_ble_eq_true rfl) ?_
  show ab_Z m_SF_read _ _ _ 0 [_, _] [] _
  refine ab_go ok_SF_read 4 rfl ?_
  show ab_Z m_SF_read _ _ _ 4 [_, _] [_, _] _
  refine ab_cl ok_SF_read rfl [_, _] [] rfl ⟨_, _, rfl, rfl, Or.inl ⟨_, _, rfl, rfl⟩⟩ (Nat.le_of_ble_eq_true rfl) (t_To_scan (d + 20) fm X s t hb hW hL h2) ?_
  rintro _ _ ⟨rfl, s1, t1, N, rfl, k1, k2, hTk⟩
  show ab_Z m_SF_read _ _ _ 5 [_, _] [] _
  have hL1 : s1 1 1 = nI L := (k1 1 1 (by decide) (by decide) (by decide)).trans hL
  have hin : inR (L + 1) (nI L) := by unfold inR; rw [nI_t (by omega)]; omega
  refine ab_go ok_SF_read 5 rfl ?_
  show ab_Z m_SF_read _ _ _ 10 [_, _] [_, _] _
  rw [hL1]
  refine ab_cl ok_SF_read rfl [_, _] [] rfl ⟨_, _, rfl, rfl, Or.inl ⟨_, _, rfl, rfl⟩⟩ (Nat.le_of_ble_eq_true rfl) (t_Ta_drop (d + 25) fm X s1 t1 hL1 h2 (nI L)) ?_
  rintro _ _ ⟨rfl, rfl⟩
  show ab_Z m_SF_read _ _ _ 11 [_, _] [_] _
  rw [if_pos hin, nI_c (by omega), Nat.sub_self]
  have hTC : TC s1 t1 (kOf b L) (tkP b L) (vOf b L) (nOf b L) := tk_TC s1 t1 hTk
  have hTC2 : TC (ab_up s1 1 1 (nI 0)) t1 (kOf b L) (tkP b L) (vOf b L) (nOf b L) := ⟨fun n hn => by rw [ab_up_o (by decide), ab_up_o (by decide)]; exact hTC.1 n hn, hTC.2⟩
  refine ab_go ok_SF_read 5 rfl ?_
  show ab_Z m_SF_read _ _ _ 16 [_, _] [_, _] _
  refine ab_cl ok_SF_read rfl [_, _] [] rfl ⟨_, _, rfl, rfl, Or.inl ⟨_, _, rfl, rfl⟩⟩ (Nat.le_of_ble_eq_true rfl) (t_Re_parse d fm X _ t1 hTC2 (N := N) (by rw [ab_up_o (by decide)]; exact hTk.1.1) hTk.2.1 hTk.2.2.1 (by obtain ⟨z, z1, z2⟩ := hz; exact ⟨z, z1, by rw [ab_up_o (by decide), k1 8 5 (by decide) (by decide) (by decide)]; exact z2⟩)) ?_
  rintro _ _ ⟨rfl, hr5, s2, t2, rfl, k3, k4, hz2, hp2, hD2, hE2⟩
  show ab_Z m_SF_read _ _ _ 17 [_, _] [_] _
  rw [← hF] at hr5 hp2 hD2 hE2 ⊢
  have kt : ∀ c, c ≠ 6 → c ≠ 58 → c ≠ 61 → t2 c = t c := fun c h1 h2 h3 => by rw [k4 c h2 h3, k2 c h1]
  have kk : ∀ x : Int32, KC s (ab_up s2 0 9 x) := fun x c k h1 h2 h3 h4 h5 h6 h7 => by
    have e2 : s2 c k = s c k := by
      rw [k3 c k h1 h2]
      by_cases hc : c = 1
      · subst hc
        rw [ab_up_n (fun z => h6 ⟨rfl, z⟩)]
        exact k1 1 k (by decide) (by decide) (by omega)
      · rw [ab_up_o hc]
        exact k1 c k h3 h4 h5
    by_cases hc : c = 0
    · subst hc
      rw [ab_up_n (fun z => h7 ⟨rfl, z⟩)]
      exact e2
    · rw [ab_up_o hc]; exact e2
  have e11 : ∀ x : Int32, ab_up s2 0 9 x 1 1 = 0 := fun x => by rw [ab_up_o (by decide), k3 1 1 (by decide) (by decide), ab_up_s]; rfl
  have ez : ∀ x : Int32, ∃ z, z ≤ 400 ∧ ab_up s2 0 9 x 8 5 = nI z := fun x => by
    obtain ⟨z, z1, z2⟩ := hz2
    exact ⟨z, z1, by rw [ab_up_o (by decide)]; exact z2⟩
  refine ab_go ok_SF_read 3 rfl ?_
  show ab_Z m_SF_read _ _ _ 20 [_, _] [_, _] _
  refine ab_br ok_SF_read rfl rfl ?_ ?_
  · intro h1
    show ab_Z m_SF_read _ _ _ 21 [_, _] [_] _
    have h0 : rdN F = 0 := (nI_z (by omega)).mp h1
    refine ab_go ok_SF_read 4 rfl ?_
    show ab_Z m_SF_read _ _ _ 28 [_, _] [_] _
    rw [h0]
    refine ab_go ok_SF_read 1 rfl ?_
    show ab_Z m_SF_read _ _ _ 29 [_, _] [] _
    refine ab_go ok_SF_read 5 rfl ?_
    show ab_Z m_SF_read _ _ _ 34 [_, _] [_, _, _] _
    refine ab_cl ok_SF_read rfl [_, _] [_] rfl ⟨_, _, rfl, rfl, Or.inl ⟨_, _, rfl, rfl⟩⟩ (Nat.le_of_ble_eq_true rfl) (t_Ha_begin (d + 22) fm X _ t2) ?_
    rintro _ _ ⟨rfl, s3, r, rfl, hs3, hr3⟩
    show ab_Z m_SF_read _ _ _ 35 [_, _] [_, _] _
    refine ab_pr ok_SF_read rfl rfl (by decide) (by rw [shA_len]; decide) ?_
    show ab_Z m_SF_read _ _ _ 36 [_, _] [] _
    refine ab_go ok_SF_read 2 rfl ?_
    show ab_Z m_SF_read _ _ _ 38 [_, _] [_] _
    refine ab_cl ok_SF_read rfl [_] [] rfl ⟨_, _, rfl, rfl, Or.inl ⟨_, _, rfl, rfl⟩⟩ (Nat.le_of_ble_eq_true rfl) (c_Me_clearAll (d + 25) fm X s3 t2) ?_
    rintro _ _ ⟨rfl, rfl⟩
    show ab_Z m_SF_read _ _ _ 39 [_, _] [] _
    refine ab_go ok_SF_read 2 rfl ?_
    show ab_Z m_SF_read _ _ _ 41 [_, _] [_] _
    refine ab_cl ok_SF_read rfl [_] [] rfl ⟨_, _, rfl, rfl, Or.inl ⟨_, _, rfl, rfl⟩⟩ (Nat.le_of_ble_eq_true rfl) (c_Tl_drop (d + 25) fm X _ t2) ?_
    rintro _ _ ⟨rfl, rfl⟩
    show ab_Z m_SF_read _ _ _ 42 [_, _] [_] _
    refine ab_go ok_SF_read 2 rfl ?_
    show ab_Z m_SF_read _ _ _ 44 [_, _] [_] _
    have fin : Po (some (.int (nI (rdN F)))) (HC fm X (ab_up (ab_up (ab_up s3 38 4 0) 38 2 0) 41 3 0) t2) := by
      rw [← hPo]
      refine ⟨rfl, fun h => absurd h0 h, fun _ => ?_⟩
      cases hFc : F with
      | inr e =>
        rw [hFc] at h0
        exact absurd h0 (hE2 e hFc)
      | inl q => exact ⟨_, s3, t2, r, rfl, kk _, kt, ez _, e11 _, ab_up_s .., hs3, hr3, q, rfl, (hD2 q hFc).z (fun c h1 h2 => ab_up_o (by omega))⟩
    rw [h0] at fin
    exact ab_rI ok_SF_read rfl (fin)
  · intro h1
    show ab_Z m_SF_read _ _ _ 23 [_, _] [_] _
    have h0 : ¬ rdN F = 0 := fun z => h1 (by rw [z]; rfl)
    refine ab_go ok_SF_read 5 rfl ?_
    show ab_Z m_SF_read _ _ _ 28 [_, _] [_] _
    rw [hp2 h0]
    refine ab_br ok_SF_read rfl rfl ?_ ?_
    · intro h3
      show ab_Z m_SF_read _ _ _ 29 [_, _] [] _
      exact absurd h3 h1
    · intro h3
      show ab_Z m_SF_read _ _ _ 43 [_, _] [] _
      refine ab_go ok_SF_read 1 rfl ?_
      show ab_Z m_SF_read _ _ _ 44 [_, _] [_] _
      have fin : Po (some (.int (nI (rdN F)))) (HA fm X (ab_up s2 0 9 (nI (rdP (tkP b L) F))) t2) := by
        rw [← hPo]
        exact ⟨rfl, fun _ => ⟨_, t2, rfl, kk _, kt, ez _, e11 _, ab_up_s ..⟩, fun h => absurd h h0⟩
      exact ab_rI ok_SF_read rfl (fin)
end

