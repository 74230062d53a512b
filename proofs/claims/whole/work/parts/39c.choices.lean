/-! choices: who is given what, the game, who breaks -/
def lowB (g : Nat → Nat → Int32) (cf : Nat → Nat) (e u c : Nat) : Bool := ((cf e).testBit c && !u.testBit c) && decide (1 + g (e + 1) (u ||| 2 ^ c) = g e u)
def mtS (g : Nat → Nat → Int32) (cf : Nat → Nat) : Nat → Nat × Int32
  | 0 => (0, -2)
  | e + 1 => (if fstV (lowB g cf e (mtS g cf e).1) 0 5 = -2 then (mtS g cf e).1 else (mtS g cf e).1 ||| 2 ^ (fstV (lowB g cf e (mtS g cf e).1) 0 5).toNatClampNeg, fstV (lowB g cf e (mtS g cf e).1) 0 5)
theorem fstV_or (p : Nat → Bool) : ∀ (n k : Nat), k + n < 1000 → fstV p k n = -2 ∨ ∃ j, k ≤ j ∧ j < k + n ∧ fstV p k n = nI j
  | 0, k, _ => Or.inl rfl
  | n + 1, k, h => by
    unfold fstV
    split
    · exact Or.inr ⟨k, Nat.le_refl _, by omega, rfl⟩
    · rcases fstV_or p n (k + 1) (by omega) with h1 | ⟨j, h1, h2, h3⟩
      · exact Or.inl h1
      · exact Or.inr ⟨j, by omega, by omega, h3⟩
theorem nI_ne2 {k : Nat} (h : k < 1000) : ¬ nI k = -2 := by
  intro z
  have := congrArg Int32.toInt z
  rw [nI_t (by omega)] at this
  have h2 : (-2 : Int32).toInt = -2 := rfl
  omega
theorem mtS_lt (g : Nat → Nat → Int32) (cf : Nat → Nat) : ∀ e, (mtS g cf e).1 < 32
  | 0 => by rw [mtS]; decide
  | e + 1 => by
    have ih := mtS_lt g cf e
    rw [mtS]
    rcases fstV_or (lowB g cf e (mtS g cf e).1) 5 0 (by decide) with h | ⟨j, h1, h2, h3⟩
    · rw [h]; exact ih
    · rw [h3]
      show (if nI j = -2 then _ else _) < 32
      rw [if_neg (nI_ne2 (by omega)), nI_c (by omega)]
      exact or_lt32 ih (by omega)
def gnS (b : Nat → Int32) (G : Nat → Int32) (set : Nat) : Nat → Int32
  | 0 => -1000000000
  | e + 1 => if set.testBit e = true then mxF (gnS b G set e) (b e - G (set ^^^ 2 ^ e)) else gnS b G set e
def gnT (b : Nat → Int32) : Nat → Nat → Int32
  | 0 => fun _ => 0
  | n + 1 => upd (gnT b n) (n + 1) (gnS b (gnT b n) (n + 1) 6)
def cloN (s : Nat → Nat → Int32) (nd : Nat) : Nat := bitsN (fun e => !decide (s 11 (33 + e) = -2)) nd
theorem cloN_lt (s : Nat → Nat → Int32) {nd : Nat} (h : nd ≤ 6) : cloN s nd < 64 := Nat.lt_of_lt_of_le (bitsN_lt _ nd) (Nat.pow_le_pow_right (by decide) h : 2 ^ nd ≤ 2 ^ 6)
def pickB (b G : Nat → Int32) (set e : Nat) : Bool := set.testBit e && decide (b e - G (set ^^^ 2 ^ e) = G set)
def brkB (s : Nat → Nat → Int32) (cl k : Nat) : Bool := !heldB s k || (hbF (nI cl) (s 11 (33 + (s 21 (2 * k)).toNatClampNeg)) || hbF (nI cl) (s 11 (33 + (s 21 (2 * k + 1)).toNatClampNeg)))
def allB (p : Nat → Bool) : Nat → Bool
  | 0 => true
  | k + 1 => allB p k && p k
theorem allB_no {p : Nat → Bool} {i : Nat} (h : allB p i = false) : ∀ k, i ≤ k → allB p k = false
  | 0, hk => by rw [Nat.le_zero.mp hk] at h; exact h
  | k + 1, hk => by
    rcases Nat.lt_or_ge k i with h1 | h1
    · rw [show i = k + 1 by omega] at h; exact h
    · rw [allB, allB_no h k h1]; rfl
def brkV (s : Nat → Nat → Int32) (nt : Nat) : Nat → Nat
  | 0 => 31
  | k + 1 => if bcF (nI k) < bcF (nI (brkV s nt k)) ∧ allB (brkB s k) nt = true then k else brkV s nt k
section
variable (d : Nat) (fm : Value) (X : Nat × (Nat → Int32)) (s : Nat → Nat → Int32) (t : Nat → Nat → Int64)
variable {nc nd nt : Nat} {PT PG PB PF : List (List Ins)}
theorem t_Ch_lowestFor {e u : Nat} {g : Nat → Nat → Int32} {cf : Nat → Nat} (hg : ∀ v, v < 32 → s 54 (32 * e + v) = g e v ∧ s 54 (32 * (e + 1) + v) = g (e + 1) v) (ha : s 53 e = nI (cf e)) (he : e < 6) (hu : u < 32) : ab_T g_Ch_lowestFor (d + 2) (0, 0) [.ref 52, .int (nI e), .int (nI u)] (HA fm X s t) (PI (fstV (lowB g cf e u) 0 5) (HA fm X s t)) := by
  refine ab_T_of (M := m_Ch_lowestFor) rfl rfl (Nat.le_of_ble_eq_true rfl) ?_
  show ab_Z m_Ch_lowestFor _ _ _ 0 [_, _, _, _, _] [] _
  refine ab_go ok_Ch_lowestFor 3 rfl ?_
  show ab_Z m_Ch_lowestFor _ _ _ 3 [_, _, _, _, _] [_, _] _
  refine ab_cl ok_Ch_lowestFor rfl [_, _] [] rfl rfl (Nat.le_of_ble_eq_true rfl) (t_SF_at_53 (d + 1) fm X s t _ e he rfl) ?_
  rintro _ _ ⟨rfl, rfl⟩
  show ab_Z m_Ch_lowestFor _ _ _ 4 [_, _, _, _, _] [_] _
  rw [ha]
  refine ab_go ok_Ch_lowestFor 7 rfl ?_
  show ab_Z m_Ch_lowestFor _ _ _ 11 [_, _, _, _, _] [] _
  generalize hV : fstV (lowB g cf e u) 0 5 = V
  refine lp_dn 5 (fun c => V = fstV (lowB g cf e u) c (5 - c) → ab_Z m_Ch_lowestFor (d + 2) (0, 0) (PI V (HA fm X s t)) 11 [some (.ref 52), some (.int (nI e)), some (.int (nI u)), some (.int (nI (cf e) &&& (nI u ^^^ -1))), some (.int (nI c))] [] (HA fm X s t)) ?_ ?_ hV.symm
  · intro hV
    refine ab_go ok_Ch_lowestFor 2 rfl ?_
    show ab_Z m_Ch_lowestFor _ _ _ 13 [_, _, _, _, _] [_, _] _
    refine ab_go ok_Ch_lowestFor 1 rfl ?_
    show ab_Z m_Ch_lowestFor _ _ _ 39 [_, _, _, _, _] [] _
    refine ab_go ok_Ch_lowestFor 1 rfl ?_
    show ab_Z m_Ch_lowestFor _ _ _ 40 [_, _, _, _, _] [_] _
    exact ab_rI ok_Ch_lowestFor rfl (⟨by rw [hV]; rfl, rfl⟩)
  · intro c hc ih hV
    rw [show 5 - c = 5 - (c + 1) + 1 by omega, fstV] at hV
    refine ab_go ok_Ch_lowestFor 2 rfl ?_
    show ab_Z m_Ch_lowestFor _ _ _ 13 [_, _, _, _, _] [_, _] _
    refine ab_br ok_Ch_lowestFor rfl rfl ?_ ?_
    · intro h1
      show ab_Z m_Ch_lowestFor _ _ _ 39 [_, _, _, _, _] [] _
      exact absurd h1 (lp_in (N := 5) (by decide) hc)
    · intro h1
      show ab_Z m_Ch_lowestFor _ _ _ 14 [_, _, _, _, _] [] _
      refine ab_go ok_Ch_lowestFor 2 rfl ?_
      show ab_Z m_Ch_lowestFor _ _ _ 16 [_, _, _, _, _] [_, _] _
      refine ab_cl ok_Ch_lowestFor rfl [_, _] [] rfl rfl (Nat.le_of_ble_eq_true rfl) (t_SF_hasBit (d + 1) _ _ (nI c)) ?_
      rintro _ _ ⟨rfl, rfl⟩
      show ab_Z m_Ch_lowestFor _ _ _ 17 [_, _, _, _, _] [_] _
      rw [hbF_an (cf e) u (by omega)]
      refine ab_br ok_Ch_lowestFor rfl rfl ?_ ?_
      · intro h2
        show ab_Z m_Ch_lowestFor _ _ _ 37 [_, _, _, _, _] [] _
        rw [if_neg (by rw [lowB, bB_0.mp h2, Bool.false_and]; decide)] at hV
        have ih2 := ih hV
        rw [nI_succ] at ih2
        refine ab_go ok_Ch_lowestFor 2 rfl ?_
        show ab_Z m_Ch_lowestFor _ _ _ 11 [_, _, _, _, _] [] _
        exact ih2
      · intro h2
        show ab_Z m_Ch_lowestFor _ _ _ 18 [_, _, _, _, _] [] _
        refine ab_go ok_Ch_lowestFor 10 rfl ?_
        show ab_Z m_Ch_lowestFor _ _ _ 28 [_, _, _, _, _] [_, _, _, _] _
        refine ab_cl ok_Ch_lowestFor rfl [_, _, _] [_] rfl ⟨_, _, rfl, rfl, Or.inl ⟨_, _, rfl, rfl⟩⟩ (Nat.le_of_ble_eq_true rfl) (t_Ch_mostFrom d fm X s t _ _ (nI_succ e).symm (by rw [nI_shl c (by omega), nI_or]) (show e + 1 < 7 by omega) (or_lt32 hu hc)) ?_
        rintro _ _ ⟨rfl, rfl⟩
        show ab_Z m_Ch_lowestFor _ _ _ 29 [_, _, _, _, _] [_, _] _
        rw [(hg _ (or_lt32 hu hc)).2]
        refine ab_go ok_Ch_lowestFor 4 rfl ?_
        show ab_Z m_Ch_lowestFor _ _ _ 33 [_, _, _, _, _] [_, _, _, _] _
        refine ab_cl ok_Ch_lowestFor rfl [_, _, _] [_] rfl ⟨_, _, rfl, rfl, Or.inl ⟨_, _, rfl, rfl⟩⟩ (Nat.le_of_ble_eq_true rfl) (t_Ch_mostFrom d fm X s t _ _ rfl rfl (show e < 7 by omega) hu) ?_
        rintro _ _ ⟨rfl, rfl⟩
        show ab_Z m_Ch_lowestFor _ _ _ 34 [_, _, _, _, _] [_, _] _
        rw [(hg u hu).1]
        refine ab_br ok_Ch_lowestFor rfl rfl ?_ ?_
        · intro h3
          show ab_Z m_Ch_lowestFor _ _ _ 35 [_, _, _, _, _] [] _
          rw [if_pos (by rw [lowB, bB_n0 h2, decide_eq_true h3]; rfl)] at hV
          refine ab_go ok_Ch_lowestFor 1 rfl ?_
          show ab_Z m_Ch_lowestFor _ _ _ 36 [_, _, _, _, _] [_] _
          exact ab_rI ok_Ch_lowestFor rfl (⟨by rw [hV], rfl⟩)
        · intro h3
          show ab_Z m_Ch_lowestFor _ _ _ 37 [_, _, _, _, _] [] _
          rw [if_neg (by rw [lowB, decide_eq_false h3]; simp)] at hV
          have ih2 := ih hV
          rw [nI_succ] at ih2
          refine ab_go ok_Ch_lowestFor 2 rfl ?_
          show ab_Z m_Ch_lowestFor _ _ _ 11 [_, _, _, _, _] [] _
          exact ih2
theorem t_Ch_matchFor {w : Nat} {g : Nat → Nat → Int32} {cf : Nat → Nat} (hg : ∀ e v, e ≤ nd → v < 32 → s 54 (32 * e + v) = g e v) (ha : ∀ e, e < nd → s 53 e = nI (cf e)) (h6 : nd ≤ 6) (hw : w < nd) : ab_T g_Ch_matchFor (d + 3) (0, 0) [.ref 52, .int (nI w)] (HA fm X s t) (PI (mtS g cf (w + 1)).2 (HA fm X s t)) := by
  refine ab_T_of (M := m_Ch_matchFor) rfl rfl (Nat.le_of_ble_eq_true rfl) ?_
  show ab_Z m_Ch_matchFor _ _ _ 0 [_, _, _, _, _] [] _
  refine ab_go ok_Ch_matchFor 6 rfl ?_
  show ab_Z m_Ch_matchFor _ _ _ 6 [_, _, _, _, _] [] _
  generalize hV : (mtS g cf (w + 1)).2 = V
  refine lp_dn (w + 1) (fun e => ab_Z m_Ch_matchFor (d + 3) (0, 0) (PI V (HA fm X s t)) 6 [some (.ref 52), some (.int (nI w)), some (.int (nI (mtS g cf e).1)), some (.int (mtS g cf e).2), some (.int (nI e))] [] (HA fm X s t)) ?_ ?_
  · refine ab_go ok_Ch_matchFor 2 rfl ?_
    show ab_Z m_Ch_matchFor _ _ _ 8 [_, _, _, _, _] [_, _] _
    refine ab_br ok_Ch_matchFor rfl rfl ?_ ?_
    · intro h1
      show ab_Z m_Ch_matchFor _ _ _ 28 [_, _, _, _, _] [] _
      refine ab_go ok_Ch_matchFor 1 rfl ?_
      show ab_Z m_Ch_matchFor _ _ _ 29 [_, _, _, _, _] [_] _
      exact ab_rI ok_Ch_matchFor rfl (⟨by rw [hV], rfl⟩)
    · intro h1
      show ab_Z m_Ch_matchFor _ _ _ 9 [_, _, _, _, _] [] _
      have := i_nlt h1
      rw [nI_t (by omega), nI_t (by omega)] at this
      omega
  · intro e he ih
    have hu := mtS_lt g cf e
    rw [mtS, nI_succ] at ih
    refine ab_go ok_Ch_matchFor 2 rfl ?_
    show ab_Z m_Ch_matchFor _ _ _ 8 [_, _, _, _, _] [_, _] _
    refine ab_br ok_Ch_matchFor rfl rfl ?_ ?_
    · intro h1
      show ab_Z m_Ch_matchFor _ _ _ 28 [_, _, _, _, _] [] _
      have := i_lt h1
      rw [nI_t (by omega), nI_t (by omega)] at this
      omega
    · intro h1
      show ab_Z m_Ch_matchFor _ _ _ 9 [_, _, _, _, _] [] _
      refine ab_go ok_Ch_matchFor 2 rfl ?_
      show ab_Z m_Ch_matchFor _ _ _ 11 [_, _, _, _, _] [_, _] _
      refine ab_br ok_Ch_matchFor rfl rfl ?_ ?_
      · intro h2
        show ab_Z m_Ch_matchFor _ _ _ 28 [_, _, _, _, _] [] _
        exact absurd h2 (lp_in (N := 6) (by decide) (by omega))
      · intro h2
        show ab_Z m_Ch_matchFor _ _ _ 12 [_, _, _, _, _] [] _
        refine ab_go ok_Ch_matchFor 3 rfl ?_
        show ab_Z m_Ch_matchFor _ _ _ 15 [_, _, _, _, _] [_, _, _] _
        refine ab_cl ok_Ch_matchFor rfl [_, _, _] [] rfl ⟨_, _, rfl, rfl, Or.inl ⟨_, _, rfl, rfl⟩⟩ (Nat.le_of_ble_eq_true rfl) (t_Ch_lowestFor d fm X s t (g := g) (cf := cf) (fun v hv => ⟨hg e v (by omega) hv, hg (e + 1) v (by omega) hv⟩) (ha e (by omega)) (show e < 6 by omega) hu) ?_
        rintro _ _ ⟨rfl, rfl⟩
        show ab_Z m_Ch_matchFor _ _ _ 16 [_, _, _, _, _] [_] _
        refine ab_go ok_Ch_matchFor 3 rfl ?_
        show ab_Z m_Ch_matchFor _ _ _ 19 [_, _, _, _, _] [_, _] _
        refine ab_br ok_Ch_matchFor rfl rfl ?_ ?_
        · intro h3
          show ab_Z m_Ch_matchFor _ _ _ 26 [_, _, _, _, _] [] _
          rw [if_pos h3] at ih
          refine ab_go ok_Ch_matchFor 2 rfl ?_
          show ab_Z m_Ch_matchFor _ _ _ 6 [_, _, _, _, _] [] _
          exact ih
        · intro h3
          show ab_Z m_Ch_matchFor _ _ _ 20 [_, _, _, _, _] [] _
          rw [if_neg h3] at ih
          refine ab_go ok_Ch_matchFor 8 rfl ?_
          show ab_Z m_Ch_matchFor _ _ _ 6 [_, _, _, _, _] [] _
          rcases fstV_or (lowB g cf e (mtS g cf e).1) 5 0 (by decide) with h | ⟨j, h4, h5, h7⟩
          · exact absurd h h3
          · rw [h7, nI_c (by omega), ← nI_or, ← nI_shl j (by omega)] at ih
            rw [h7]
            exact ih
abbrev PC (r : Int32) (fm : Value) (X : Nat × (Nat → Int32)) (s : Nat → Nat → Int32) (t : Nat → Nat → Int64) : Option Value → ab_H → Prop := fun v h => v = some (.int r) ∧ ∃ s', h = HA fm X s' t ∧ KpC s s'
theorem t_Ch_matched : ab_T g_Ch_matched (d + 2) (0, 0) [.ref 52] (HA fm X s t) (PI (s 54 0) (HA fm X s t)) := by
  refine ab_T_of (M := m_Ch_matched) rfl rfl (Nat.le_of_ble_eq_true rfl) ?_
  show ab_Z m_Ch_matched _ _ _ 0 [_] [] _
  refine ab_go ok_Ch_matched 3 rfl ?_
  show ab_Z m_Ch_matched _ _ _ 3 [_] [_, _, _] _
  refine ab_cl ok_Ch_matched rfl [_, _, _] [] rfl ⟨_, _, rfl, rfl, Or.inl ⟨_, _, rfl, rfl⟩⟩ (Nat.le_of_ble_eq_true rfl) (t_Ch_mostFrom d fm X s t _ _ (e := 0) (u := 0) rfl rfl (by decide) (by decide)) ?_
  rintro _ _ ⟨rfl, rfl⟩
  show ab_Z m_Ch_matched _ _ _ 4 [_] [_] _
  exact ab_rI ok_Ch_matched rfl (⟨rfl, rfl⟩)
def mtG (s : Nat → Nat → Int32) (PT : List (List Ins)) (nc nd : Nat) (e u : Nat) : Int32 := mF (cfS s PT nc nd) nd (nd - e) u
theorem t_SF_match (hC : CI s nc nd nt PT PG PB PF) (x : Int32) : ab_T g_SF_match (d + 7) (0, 0) [.ref 0, .int x] (HA fm X s t) (PC (if x = -1 then mtG s PT nc nd 0 0 else if inR nd x then (mtS (mtG s PT nc nd) (cfS s PT nc nd) (x.toNatClampNeg + 1)).2 else -1) fm X s t) := by
  have h6 : nd ≤ 6 := hC.1.2.2.2.1
  refine ab_T_of (M := m_SF_match) rfl rfl (Nat.le_of_ble_eq_true rfl) ?_
  show ab_Z m_SF_match _ _ _ 0 [_, _] [] _
  refine ab_go ok_SF_match 2 rfl ?_
  show ab_Z m_SF_match _ _ _ 2 [_, _] [_] _
  refine ab_cl ok_SF_match rfl [_] [] rfl ⟨_, _, rfl, rfl, Or.inl ⟨_, _, rfl, rfl⟩⟩ (Nat.le_of_ble_eq_true rfl) (t_Ch_fillMatches d fm X s t hC) ?_
  rintro _ _ ⟨rfl, s1, rfl, hs, q1, q2⟩
  show ab_Z m_SF_match _ _ _ 3 [_, _] [] _
  refine ab_go ok_SF_match 2 rfl ?_
  show ab_Z m_SF_match _ _ _ 5 [_, _] [_, _] _
  refine ab_br ok_SF_match rfl rfl ?_ ?_
  · intro h1
    show ab_Z m_SF_match _ _ _ 6 [_, _] [] _
    rw [if_pos h1]
    refine ab_go ok_SF_match 2 rfl ?_
    show ab_Z m_SF_match _ _ _ 8 [_, _] [_] _
    refine ab_cl ok_SF_match rfl [_] [] rfl ⟨_, _, rfl, rfl, Or.inl ⟨_, _, rfl, rfl⟩⟩ (Nat.le_of_ble_eq_true rfl) (t_Ch_matched (d + 4) fm X s1 t) ?_
    rintro _ _ ⟨rfl, rfl⟩
    show ab_Z m_SF_match _ _ _ 9 [_, _] [_] _
    exact ab_rI ok_SF_match rfl (⟨by rw [show s1 54 0 = mtG s PT nc nd 0 0 from q2 0 0 (by omega) (by decide)], s1, rfl, hs⟩)
  · intro h1
    show ab_Z m_SF_match _ _ _ 10 [_, _] [] _
    rw [if_neg h1]
    refine ab_go ok_SF_match 3 rfl ?_
    show ab_Z m_SF_match _ _ _ 13 [_, _] [_, _] _
    refine ab_cl ok_SF_match rfl [_, _] [] rfl ⟨_, _, rfl, rfl, Or.inl ⟨_, _, rfl, rfl⟩⟩ (Nat.le_of_ble_eq_true rfl) (t_Ha_isDeed' (d + 6) fm X s1 t (CS_h hs.toH hC.1) x) ?_
    rintro _ _ ⟨rfl, rfl⟩
    show ab_Z m_SF_match _ _ _ 14 [_, _] [_] _
    refine ab_br ok_SF_match rfl rfl ?_ ?_
    · intro h2
      show ab_Z m_SF_match _ _ _ 20 [_, _] [] _
      refine ab_go ok_SF_match 1 rfl ?_
      show ab_Z m_SF_match _ _ _ 21 [_, _] [_] _
      exact ab_rI ok_SF_match rfl (⟨by rw [if_neg (bI_0.mp h2)], s1, rfl, hs⟩)
    · intro h2
      show ab_Z m_SF_match _ _ _ 15 [_, _] [] _
      have h3 := bI_n0 h2
      rw [if_pos h3]
      clear h2 h1
      obtain ⟨w, hw, rfl⟩ := inR_nat h3
      rw [nI_c (by omega)]
      refine ab_go ok_SF_match 3 rfl ?_
      show ab_Z m_SF_match _ _ _ 18 [_, _] [_, _] _
      refine ab_cl ok_SF_match rfl [_, _] [] rfl ⟨_, _, rfl, rfl, Or.inl ⟨_, _, rfl, rfl⟩⟩ (Nat.le_of_ble_eq_true rfl) (t_Ch_matchFor (d + 3) fm X s1 t (g := mtG s PT nc nd) (cf := cfS s PT nc nd) (fun e v he hv => q2 e v he hv) q1 h6 hw) ?_
      rintro _ _ ⟨rfl, rfl⟩
      show ab_Z m_SF_match _ _ _ 19 [_, _] [_] _
      refine ab_go ok_SF_match 1 rfl ?_
      show ab_Z m_SF_match _ _ _ 21 [_, _] [_] _
      exact ab_rI ok_SF_match rfl (⟨rfl, s1, rfl, hs⟩)
theorem t_Ch_closedDeeds (hn : s 14 12 = nI nd) (h6 : nd ≤ 6) : ab_T g_Ch_closedDeeds (d + 2) (0, 0) [.ref 52] (HA fm X s t) (PI (nI (cloN s nd)) (HA fm X s t)) := by
  refine ab_T_of (M := m_Ch_closedDeeds) rfl rfl (Nat.le_of_ble_eq_true rfl) ?_
  show ab_Z m_Ch_closedDeeds _ _ _ 0 [_] [] _
  refine ab_go ok_Ch_closedDeeds 11 rfl ?_
  show ab_Z m_Ch_closedDeeds _ _ _ 11 [_] [_, _, _] _
  refine ab_cl ok_Ch_closedDeeds rfl [_, _] [_] rfl ⟨_, _, rfl, rfl, Or.inl ⟨_, _, rfl, rfl⟩⟩ (Nat.le_of_ble_eq_true rfl) (t_Ha_deedsWith d fm X s t (-2) hn h6) ?_
  rintro _ _ ⟨rfl, rfl⟩
  show ab_Z m_Ch_closedDeeds _ _ _ 12 [_] [_, _] _
  refine ab_go ok_Ch_closedDeeds 3 rfl ?_
  show ab_Z m_Ch_closedDeeds _ _ _ 15 [_] [_] _
  rw [hn, clo_bits _ h6]
  exact ab_rI ok_Ch_closedDeeds rfl (⟨rfl, rfl⟩)
theorem t_Ch_gainBy {e set : Nat} (he : e < 6) (hs : set < 64) : ab_T g_Ch_gainBy (d + 1) (0, 0) [.ref 52, .int (nI e), .int (nI set)] (HA fm X s t) (PI (s 55 e - s 56 (set ^^^ 2 ^ e)) (HA fm X s t)) := by
  refine ab_T_of (M := m_Ch_gainBy) rfl rfl (Nat.le_of_ble_eq_true rfl) ?_
  show ab_Z m_Ch_gainBy _ _ _ 0 [_, _, _] [] _
  refine ab_go ok_Ch_gainBy 3 rfl ?_
  show ab_Z m_Ch_gainBy _ _ _ 3 [_, _, _] [_, _] _
  refine ab_cl ok_Ch_gainBy rfl [_, _] [] rfl rfl (Nat.le_of_ble_eq_true rfl) (t_SF_at_55 d fm X s t _ e he rfl) ?_
  rintro _ _ ⟨rfl, rfl⟩
  show ab_Z m_Ch_gainBy _ _ _ 4 [_, _, _] [_] _
  refine ab_go ok_Ch_gainBy 7 rfl ?_
  show ab_Z m_Ch_gainBy _ _ _ 11 [_, _, _] [_, _, _] _
  refine ab_cl ok_Ch_gainBy rfl [_, _] [_] rfl rfl (Nat.le_of_ble_eq_true rfl) (t_SF_at_56 d fm X s t _ (set ^^^ 2 ^ e) (Nat.xor_lt_two_pow (n := 6) hs (Nat.pow_lt_pow_right (by decide) he)) (by rw [nI_shl e (by omega), nI_xor])) ?_
  rintro _ _ ⟨rfl, rfl⟩
  show ab_Z m_Ch_gainBy _ _ _ 12 [_, _, _] [_, _] _
  refine ab_go ok_Ch_gainBy 1 rfl ?_
  show ab_Z m_Ch_gainBy _ _ _ 13 [_, _, _] [_] _
  exact ab_rI ok_Ch_gainBy rfl (⟨rfl, rfl⟩)
theorem t_Ch_fillGains (hC : CI s nc nd nt PT PG PB PF) : ab_T g_Ch_fillGains (d + 6) (0, 0) [.ref 52] (HA fm X s t) (fun v h => v = none ∧ ∃ s', h = HA fm X s' t ∧ KpC s s' ∧ (∀ e, e < nd → s' 55 e = bdV s PB PF nd e 0) ∧ ∀ k, k ≤ cloN s nd → s' 56 k = gnT (fun e => bdV s PB PF nd e 0) (cloN s nd) k) := by
  have h5 : nc ≤ 5 := hC.1.2.1
  have h6 : nd ≤ 6 := hC.1.2.2.2.1
  have hcl := cloN_lt s h6
  have hcb : cloN s nd < 2 ^ nd := bitsN_lt _ nd
  refine ab_T_of (M := m_Ch_fillGains) rfl rfl (Nat.le_of_ble_eq_true rfl) ?_
  show ab_Z m_Ch_fillGains _ _ _ 0 [_, _, _, _, _] [] _
  refine ab_go ok_Ch_fillGains 1 rfl ?_
  show ab_Z m_Ch_fillGains _ _ _ 1 [_, _, _, _, _] [_] _
  refine ab_cl ok_Ch_fillGains rfl [_] [] rfl ⟨_, _, rfl, rfl, Or.inl ⟨_, _, rfl, rfl⟩⟩ (Nat.le_of_ble_eq_true rfl) (t_Ch_closedDeeds (d + 3) fm X s t hC.1.2.2.1 h6) ?_
  rintro _ _ ⟨rfl, rfl⟩
  show ab_Z m_Ch_fillGains _ _ _ 2 [_, _, _, _, _] [_] _
  refine ab_go ok_Ch_fillGains 3 rfl ?_
  show ab_Z m_Ch_fillGains _ _ _ 5 [_, _, _, _, _] [] _
  generalize cloN s nd = n at hcl hcb ⊢
  generalize hb : (fun e => bdV s PB PF nd e 0) = b
  generalize hPo : (fun v h => v = none ∧ ∃ s', h = HA fm X s' t ∧ KpC s s' ∧ (∀ e, e < nd → s' 55 e = bdV s PB PF nd e 0) ∧ ∀ k, k ≤ n → s' 56 k = gnT b n k : Option Value → ab_H → Prop) = Po
  refine lp_dn nd (fun e => ∀ s1, KpC s s1 → (∀ x, x < e → s1 55 x = b x) → ab_Z m_Ch_fillGains (d + 6) (0, 0) Po 5 [some (.ref 52), some (.int (nI n)), some (.int (nI e)), none, none] [] (HA fm X s1 t)) ?_ ?_ s (KpC.rf s) (fun x hx => absurd hx (by omega))
  · intro s1 hs q
    have hC1 := CI_h hs.toH hC
    refine ab_go ok_Ch_fillGains 5 rfl ?_
    show ab_Z m_Ch_fillGains _ _ _ 10 [_, _, _, _, _] [_, _] _
    rw [hC1.1.2.2.1]
    refine ab_br ok_Ch_fillGains rfl rfl ?_ ?_
    · intro h1
      show ab_Z m_Ch_fillGains _ _ _ 22 [_, _, _, _, _] [] _
      refine ab_go ok_Ch_fillGains 4 rfl ?_
      show ab_Z m_Ch_fillGains _ _ _ 26 [_, _, _, _, _] [_, _, _] _
      refine ab_cl ok_Ch_fillGains rfl [_, _, _] [] rfl rfl (Nat.le_of_ble_eq_true rfl) (t_SF_put_56 (d + 5) fm X s1 t _ 0 _ (by decide) rfl) ?_
      rintro _ _ ⟨rfl, rfl⟩
      show ab_Z m_Ch_fillGains _ _ _ 27 [_, _, _, _, _] [] _
      refine ab_go ok_Ch_fillGains 2 rfl ?_
      show ab_Z m_Ch_fillGains _ _ _ 29 [_, _, _, _, _] [] _
      refine lp_dn n (fun k => ∀ s1, KpC s s1 → (∀ x, x < nd → s1 55 x = b x) → (∀ x, x ≤ k → s1 56 x = gnT b k x) → ab_Z m_Ch_fillGains (d + 6) (0, 0) Po 29 [some (.ref 52), some (.int (nI n)), some (.int (nI k + 1)), none, none] [] (HA fm X s1 t)) ?_ ?_ _ (hs.up (p := 56) (k := 0) (v := 0) (by decide)) (fun x hx => by rw [ab_up_o (by decide)]; exact q x hx) (fun x hx => by rw [show x = 0 by omega, ab_up_s]; rfl)
      · intro s1 hs q1 q2
        refine ab_go ok_Ch_fillGains 2 rfl ?_
        show ab_Z m_Ch_fillGains _ _ _ 31 [_, _, _, _, _] [_, _] _
        refine ab_br ok_Ch_fillGains rfl rfl ?_ ?_
        · intro h2
          show ab_Z m_Ch_fillGains _ _ _ 59 [_, _, _, _, _] [] _
          exact ab_rV ok_Ch_fillGains rfl (by rw [← hPo]; exact ⟨rfl, s1, rfl, hs, fun e he => by rw [q1 e he, ← hb], q2⟩)
        · intro h2
          show ab_Z m_Ch_fillGains _ _ _ 32 [_, _, _, _, _] [] _
          have := i_nlt h2
          rw [← nI_succ, nI_t (by omega), nI_t (by omega)] at this
          omega
      · intro k hk ih s1 hs q1 q2
        refine ab_go ok_Ch_fillGains 2 rfl ?_
        show ab_Z m_Ch_fillGains _ _ _ 31 [_, _, _, _, _] [_, _] _
        refine ab_br ok_Ch_fillGains rfl rfl ?_ ?_
        · intro h2
          show ab_Z m_Ch_fillGains _ _ _ 59 [_, _, _, _, _] [] _
          have := i_lt h2
          rw [← nI_succ, nI_t (by omega), nI_t (by omega)] at this
          omega
        · intro h2
          show ab_Z m_Ch_fillGains _ _ _ 32 [_, _, _, _, _] [] _
          refine ab_go ok_Ch_fillGains 4 rfl ?_
          show ab_Z m_Ch_fillGains _ _ _ 36 [_, _, _, _, _] [] _
          rw [← nI_succ k]
          generalize hV : gnS b (gnT b k) (k + 1) 6 = V
          refine lp_dn 6 (fun e => ab_Z m_Ch_fillGains (d + 6) (0, 0) Po 36 [some (.ref 52), some (.int (nI n)), some (.int (nI (k + 1))), some (.int (gnS b (gnT b k) (k + 1) e)), some (.int (nI e))] [] (HA fm X s1 t)) ?_ ?_
          · rw [hV]
            refine ab_go ok_Ch_fillGains 2 rfl ?_
            show ab_Z m_Ch_fillGains _ _ _ 38 [_, _, _, _, _] [_, _] _
            refine ab_go ok_Ch_fillGains 1 rfl ?_
            show ab_Z m_Ch_fillGains _ _ _ 52 [_, _, _, _, _] [] _
            refine ab_go ok_Ch_fillGains 4 rfl ?_
            show ab_Z m_Ch_fillGains _ _ _ 56 [_, _, _, _, _] [_, _, _] _
            refine ab_cl ok_Ch_fillGains rfl [_, _, _] [] rfl rfl (Nat.le_of_ble_eq_true rfl) (t_SF_put_56 (d + 5) fm X s1 t _ (k + 1) _ (by omega) rfl) ?_
            rintro _ _ ⟨rfl, rfl⟩
            show ab_Z m_Ch_fillGains _ _ _ 57 [_, _, _, _, _] [] _
            refine ab_go ok_Ch_fillGains 2 rfl ?_
            show ab_Z m_Ch_fillGains _ _ _ 29 [_, _, _, _, _] [] _
            have ih2 := ih _ (hs.up (p := 56) (k := k + 1) (v := V) (by decide)) (fun x hx => by rw [ab_up_o (by decide)]; exact q1 x hx) (fun x hx => by
              rw [gnT, hV]
              unfold upd
              by_cases hxk : x = k + 1
              · subst hxk; rw [ab_up_s, if_pos rfl]
              · rw [ab_up_n hxk, if_neg hxk]; exact q2 x (by omega))
            exact ih2
          · intro e he ih3
            rw [gnS, nI_succ e] at ih3
            refine ab_go ok_Ch_fillGains 2 rfl ?_
            show ab_Z m_Ch_fillGains _ _ _ 38 [_, _, _, _, _] [_, _] _
            refine ab_br ok_Ch_fillGains rfl rfl ?_ ?_
            · intro h3
              show ab_Z m_Ch_fillGains _ _ _ 52 [_, _, _, _, _] [] _
              exact absurd h3 (lp_in (N := 6) (by decide) he)
            · intro h3
              show ab_Z m_Ch_fillGains _ _ _ 39 [_, _, _, _, _] [] _
              refine ab_go ok_Ch_fillGains 2 rfl ?_
              show ab_Z m_Ch_fillGains _ _ _ 41 [_, _, _, _, _] [_, _] _
              refine ab_cl ok_Ch_fillGains rfl [_, _] [] rfl rfl (Nat.le_of_ble_eq_true rfl) (t_SF_hasBit (d + 5) _ _ (nI e)) ?_
              rintro _ _ ⟨rfl, rfl⟩
              show ab_Z m_Ch_fillGains _ _ _ 42 [_, _, _, _, _] [_] _
              rw [hbF_nI (k + 1) (by omega)]
              refine ab_br ok_Ch_fillGains rfl rfl ?_ ?_
              · intro h4
                show ab_Z m_Ch_fillGains _ _ _ 50 [_, _, _, _, _] [] _
                rw [if_neg (by rw [bB_0.mp h4]; decide)] at ih3
                refine ab_go ok_Ch_fillGains 2 rfl ?_
                show ab_Z m_Ch_fillGains _ _ _ 36 [_, _, _, _, _] [] _
                exact ih3
              · intro h4
                show ab_Z m_Ch_fillGains _ _ _ 43 [_, _, _, _, _] [] _
                have hb4 := bB_n0 h4
                rw [if_pos hb4] at ih3
                have hend : e < nd := by
                  rcases Nat.lt_or_ge e nd with h | h
                  · exact h
                  · have h8 : 2 ^ nd ≤ 2 ^ e := Nat.pow_le_pow_right (by decide) h
                    rw [Nat.testBit_lt_two_pow (by omega)] at hb4
                    exact absurd hb4 (by decide)
                have hxl := xor_lt (k + 1) (by omega) e he hb4
                refine ab_go ok_Ch_fillGains 4 rfl ?_
                show ab_Z m_Ch_fillGains _ _ _ 47 [_, _, _, _, _] [_, _, _, _] _
                refine ab_cl ok_Ch_fillGains rfl [_, _, _] [_] rfl ⟨_, _, rfl, rfl, Or.inl ⟨_, _, rfl, rfl⟩⟩ (Nat.le_of_ble_eq_true rfl) (t_Ch_gainBy (d + 4) fm X s1 t he (show k + 1 < 64 by omega)) ?_
                rintro _ _ ⟨rfl, rfl⟩
                show ab_Z m_Ch_fillGains _ _ _ 48 [_, _, _, _, _] [_, _] _
                rw [q1 e hend, q2 _ (by omega)]
                refine ab_cl ok_Ch_fillGains rfl [_, _] [] rfl rfl (Nat.le_of_ble_eq_true rfl) (t_JM_max (d + 5) _ _ _) ?_
                rintro _ _ ⟨rfl, rfl⟩
                show ab_Z m_Ch_fillGains _ _ _ 49 [_, _, _, _, _] [_] _
                refine ab_go ok_Ch_fillGains 3 rfl ?_
                show ab_Z m_Ch_fillGains _ _ _ 36 [_, _, _, _, _] [] _
                exact ih3
    · intro h1
      show ab_Z m_Ch_fillGains _ _ _ 11 [_, _, _, _, _] [] _
      exact absurd (lp_out nd) h1
  · intro e he ih s1 hs q
    have hC1 := CI_h hs.toH hC
    refine ab_go ok_Ch_fillGains 5 rfl ?_
    show ab_Z m_Ch_fillGains _ _ _ 10 [_, _, _, _, _] [_, _] _
    rw [hC1.1.2.2.1]
    refine ab_br ok_Ch_fillGains rfl rfl ?_ ?_
    · intro h1
      show ab_Z m_Ch_fillGains _ _ _ 22 [_, _, _, _, _] [] _
      exact absurd h1 (lp_in (by omega) he)
    · intro h1
      show ab_Z m_Ch_fillGains _ _ _ 11 [_, _, _, _, _] [] _
      refine ab_go ok_Ch_fillGains 7 rfl ?_
      show ab_Z m_Ch_fillGains _ _ _ 18 [_, _, _, _, _] [_, _, _, _, _] _
      refine ab_cl ok_Ch_fillGains rfl [_, _, _] [_, _] rfl ⟨_, _, rfl, rfl, Or.inl ⟨_, _, rfl, rfl⟩⟩ (Nat.le_of_ble_eq_true rfl) (t_Ha_bindsAfter d fm X s1 t hC1.1.2.2.2.2.2.2.2.2.1 hC1.1.2.2.2.2.2.2.2.2.2 hC1.1.2.2.1 h6 h5 hC1.2 he (n := 0) (by decide)) ?_
      rintro _ _ ⟨rfl, s2, rfl, hk⟩
      show ab_Z m_Ch_fillGains _ _ _ 19 [_, _, _, _, _] [_, _, _] _
      rw [bdV_h hs.toH, show bdV s PB PF nd e 0 = b e from by rw [← hb]]
      refine ab_cl ok_Ch_fillGains rfl [_, _, _] [] rfl rfl (Nat.le_of_ble_eq_true rfl) (t_SF_put_55 (d + 5) fm X s2 t _ e _ (show e < 6 by omega) rfl) ?_
      rintro _ _ ⟨rfl, rfl⟩
      show ab_Z m_Ch_fillGains _ _ _ 20 [_, _, _, _, _] [] _
      refine ab_go ok_Ch_fillGains 2 rfl ?_
      show ab_Z m_Ch_fillGains _ _ _ 5 [_, _, _, _, _] [] _
      have ih2 := ih _ ((hs.tr hk.to2.toC).up (p := 55) (k := e) (v := b e) (by decide)) (fun x hx => by
        by_cases hxe : x = e
        · subst hxe; rw [ab_up_s]
        · rw [ab_up_n hxe, hk 55 x rfl]; exact q x (by omega))
      rw [nI_succ] at ih2
      exact ih2
theorem t_Ch_princesGain (hn : s 14 12 = nI nd) (h6 : nd ≤ 6) : ab_T g_Ch_princesGain (d + 3) (0, 0) [.ref 52] (HA fm X s t) (PI (s 56 (cloN s nd)) (HA fm X s t)) := by
  refine ab_T_of (M := m_Ch_princesGain) rfl rfl (Nat.le_of_ble_eq_true rfl) ?_
  show ab_Z m_Ch_princesGain _ _ _ 0 [_] [] _
  refine ab_go ok_Ch_princesGain 3 rfl ?_
  show ab_Z m_Ch_princesGain _ _ _ 3 [_] [_, _] _
  refine ab_cl ok_Ch_princesGain rfl [_] [_] rfl ⟨_, _, rfl, rfl, Or.inl ⟨_, _, rfl, rfl⟩⟩ (Nat.le_of_ble_eq_true rfl) (t_Ch_closedDeeds d fm X s t hn h6) ?_
  rintro _ _ ⟨rfl, rfl⟩
  show ab_Z m_Ch_princesGain _ _ _ 4 [_] [_, _] _
  refine ab_cl ok_Ch_princesGain rfl [_, _] [] rfl rfl (Nat.le_of_ble_eq_true rfl) (t_SF_at_56 (d + 2) fm X s t _ (cloN s nd) (cloN_lt s h6) rfl) ?_
  rintro _ _ ⟨rfl, rfl⟩
  show ab_Z m_Ch_princesGain _ _ _ 5 [_] [_] _
  exact ab_rI ok_Ch_princesGain rfl (⟨rfl, rfl⟩)
theorem t_Ch_princesPick (hn : s 14 12 = nI nd) (h6 : nd ≤ 6) : ab_T g_Ch_princesPick (d + 3) (0, 0) [.ref 52] (HA fm X s t) (PI (fstV (pickB (s 55) (s 56) (cloN s nd)) 0 6) (HA fm X s t)) := by
  have hcl := cloN_lt s h6
  refine ab_T_of (M := m_Ch_princesPick) rfl rfl (Nat.le_of_ble_eq_true rfl) ?_
  show ab_Z m_Ch_princesPick _ _ _ 0 [_, _, _] [] _
  refine ab_go ok_Ch_princesPick 1 rfl ?_
  show ab_Z m_Ch_princesPick _ _ _ 1 [_, _, _] [_] _
  refine ab_cl ok_Ch_princesPick rfl [_] [] rfl ⟨_, _, rfl, rfl, Or.inl ⟨_, _, rfl, rfl⟩⟩ (Nat.le_of_ble_eq_true rfl) (t_Ch_closedDeeds d fm X s t hn h6) ?_
  rintro _ _ ⟨rfl, rfl⟩
  show ab_Z m_Ch_princesPick _ _ _ 2 [_, _, _] [_] _
  refine ab_go ok_Ch_princesPick 3 rfl ?_
  show ab_Z m_Ch_princesPick _ _ _ 5 [_, _, _] [] _
  generalize cloN s nd = n at hcl ⊢
  generalize hV : fstV (pickB (s 55) (s 56) n) 0 6 = V
  refine lp_dn 6 (fun c => V = fstV (pickB (s 55) (s 56) n) c (6 - c) → ab_Z m_Ch_princesPick (d + 3) (0, 0) (PI V (HA fm X s t)) 5 [some (.ref 52), some (.int (nI n)), some (.int (nI c))] [] (HA fm X s t)) ?_ ?_ hV.symm
  · intro hV
    refine ab_go ok_Ch_princesPick 2 rfl ?_
    show ab_Z m_Ch_princesPick _ _ _ 7 [_, _, _] [_, _] _
    refine ab_go ok_Ch_princesPick 1 rfl ?_
    show ab_Z m_Ch_princesPick _ _ _ 25 [_, _, _] [] _
    refine ab_go ok_Ch_princesPick 1 rfl ?_
    show ab_Z m_Ch_princesPick _ _ _ 26 [_, _, _] [_] _
    exact ab_rI ok_Ch_princesPick rfl (⟨by rw [hV]; rfl, rfl⟩)
  · intro c hc ih hV
    rw [show 6 - c = 6 - (c + 1) + 1 by omega, fstV] at hV
    refine ab_go ok_Ch_princesPick 2 rfl ?_
    show ab_Z m_Ch_princesPick _ _ _ 7 [_, _, _] [_, _] _
    refine ab_br ok_Ch_princesPick rfl rfl ?_ ?_
    · intro h1
      show ab_Z m_Ch_princesPick _ _ _ 25 [_, _, _] [] _
      exact absurd h1 (lp_in (N := 6) (by decide) hc)
    · intro h1
      show ab_Z m_Ch_princesPick _ _ _ 8 [_, _, _] [] _
      refine ab_go ok_Ch_princesPick 2 rfl ?_
      show ab_Z m_Ch_princesPick _ _ _ 10 [_, _, _] [_, _] _
      refine ab_cl ok_Ch_princesPick rfl [_, _] [] rfl rfl (Nat.le_of_ble_eq_true rfl) (t_SF_hasBit (d + 2) _ _ (nI c)) ?_
      rintro _ _ ⟨rfl, rfl⟩
      show ab_Z m_Ch_princesPick _ _ _ 11 [_, _, _] [_] _
      rw [hbF_nI n (by omega)]
      refine ab_br ok_Ch_princesPick rfl rfl ?_ ?_
      · intro h2
        show ab_Z m_Ch_princesPick _ _ _ 23 [_, _, _] [] _
        rw [if_neg (by rw [pickB, bB_0.mp h2, Bool.false_and]; decide)] at hV
        have ih2 := ih hV
        rw [nI_succ] at ih2
        refine ab_go ok_Ch_princesPick 2 rfl ?_
        show ab_Z m_Ch_princesPick _ _ _ 5 [_, _, _] [] _
        exact ih2
      · intro h2
        show ab_Z m_Ch_princesPick _ _ _ 12 [_, _, _] [] _
        refine ab_go ok_Ch_princesPick 3 rfl ?_
        show ab_Z m_Ch_princesPick _ _ _ 15 [_, _, _] [_, _, _] _
        refine ab_cl ok_Ch_princesPick rfl [_, _, _] [] rfl ⟨_, _, rfl, rfl, Or.inl ⟨_, _, rfl, rfl⟩⟩ (Nat.le_of_ble_eq_true rfl) (t_Ch_gainBy (d + 1) fm X s t hc hcl) ?_
        rintro _ _ ⟨rfl, rfl⟩
        show ab_Z m_Ch_princesPick _ _ _ 16 [_, _, _] [_] _
        refine ab_go ok_Ch_princesPick 3 rfl ?_
        show ab_Z m_Ch_princesPick _ _ _ 19 [_, _, _] [_, _, _] _
        refine ab_cl ok_Ch_princesPick rfl [_, _] [_] rfl rfl (Nat.le_of_ble_eq_true rfl) (t_SF_at_56 (d + 2) fm X s t _ n hcl rfl) ?_
        rintro _ _ ⟨rfl, rfl⟩
        show ab_Z m_Ch_princesPick _ _ _ 20 [_, _, _] [_, _] _
        refine ab_br ok_Ch_princesPick rfl rfl ?_ ?_
        · intro h3
          show ab_Z m_Ch_princesPick _ _ _ 21 [_, _, _] [] _
          rw [if_pos (by rw [pickB, bB_n0 h2, decide_eq_true h3]; rfl)] at hV
          refine ab_go ok_Ch_princesPick 1 rfl ?_
          show ab_Z m_Ch_princesPick _ _ _ 22 [_, _, _] [_] _
          exact ab_rI ok_Ch_princesPick rfl (⟨by rw [hV], rfl⟩)
        · intro h3
          show ab_Z m_Ch_princesPick _ _ _ 23 [_, _, _] [] _
          rw [if_neg (by rw [pickB, decide_eq_false h3]; simp)] at hV
          have ih2 := ih hV
          rw [nI_succ] at ih2
          refine ab_go ok_Ch_princesPick 2 rfl ?_
          show ab_Z m_Ch_princesPick _ _ _ 5 [_, _, _] [] _
          exact ih2
theorem fstV_cg {p q : Nat → Bool} : ∀ (n k : Nat), (∀ j, k ≤ j → j < k + n → p j = q j) → fstV p k n = fstV q k n
  | 0, _, _ => rfl
  | n + 1, k, h => by rw [fstV, fstV, h k (Nat.le_refl _) (by omega), fstV_cg n (k + 1) (fun j a b => h j (by omega) (by omega))]
theorem t_SF_game (hC : CI s nc nd nt PT PG PB PF) (w : Int32) : ab_T g_SF_game (d + 7) (0, 0) [.ref 0, .int w] (HA fm X s t) (PC (if w = 0 ∨ w = 1 then (if w = 0 then gnT (fun e => bdV s PB PF nd e 0) (cloN s nd) (cloN s nd) else fstV (pickB (fun e => bdV s PB PF nd e 0) (gnT (fun e => bdV s PB PF nd e 0) (cloN s nd)) (cloN s nd)) 0 6) else -100000) fm X s t) := by
  have h6 : nd ≤ 6 := hC.1.2.2.2.1
  refine ab_T_of (M := m_SF_game) rfl rfl (Nat.le_of_ble_eq_true rfl) ?_
  show ab_Z m_SF_game _ _ _ 0 [_, _] [] _
  refine ab_go ok_SF_game 1 rfl ?_
  show ab_Z m_SF_game _ _ _ 1 [_, _] [_] _
  refine ab_cl ok_SF_game rfl [_] [] rfl rfl (Nat.le_of_ble_eq_true rfl) (t_SF_isHow (d + 6) _ w) ?_
  rintro _ _ ⟨rfl, rfl⟩
  show ab_Z m_SF_game _ _ _ 2 [_, _] [_] _
  refine ab_br ok_SF_game rfl rfl ?_ ?_
  · intro h1
    show ab_Z m_SF_game _ _ _ 3 [_, _] [] _
    refine ab_go ok_SF_game 1 rfl ?_
    show ab_Z m_SF_game _ _ _ 4 [_, _] [_] _
    exact ab_rI ok_SF_game rfl (⟨by rw [if_neg (bI_0.mp h1)], s, rfl, KpC.rf s⟩)
  · intro h1
    show ab_Z m_SF_game _ _ _ 5 [_, _] [] _
    rw [if_pos (bI_n0 h1)]
    clear h1
    refine ab_go ok_SF_game 2 rfl ?_
    show ab_Z m_SF_game _ _ _ 7 [_, _] [_] _
    refine ab_cl ok_SF_game rfl [_] [] rfl ⟨_, _, rfl, rfl, Or.inl ⟨_, _, rfl, rfl⟩⟩ (Nat.le_of_ble_eq_true rfl) (t_Ch_fillGains d fm X s t hC) ?_
    rintro _ _ ⟨rfl, s1, rfl, hs, q1, q2⟩
    show ab_Z m_SF_game _ _ _ 8 [_, _] [] _
    have hC1 := CI_h hs.toH hC
    have ec : cloN s1 nd = cloN s nd := by
      unfold cloN
      rw [show (fun e => !decide (s1 11 (33 + e) = -2)) = (fun e => !decide (s 11 (33 + e) = -2)) from funext fun e => by rw [hs 11 _ rfl (by decide) (by decide)]]
    refine ab_go ok_SF_game 1 rfl ?_
    show ab_Z m_SF_game _ _ _ 9 [_, _] [_] _
    refine ab_br ok_SF_game rfl rfl ?_ ?_
    · intro h2
      show ab_Z m_SF_game _ _ _ 10 [_, _] [] _
      rw [if_pos h2]
      refine ab_go ok_SF_game 2 rfl ?_
      show ab_Z m_SF_game _ _ _ 12 [_, _] [_] _
      refine ab_cl ok_SF_game rfl [_] [] rfl ⟨_, _, rfl, rfl, Or.inl ⟨_, _, rfl, rfl⟩⟩ (Nat.le_of_ble_eq_true rfl) (t_Ch_princesGain (d + 3) fm X s1 t hC1.1.2.2.1 h6) ?_
      rintro _ _ ⟨rfl, rfl⟩
      show ab_Z m_SF_game _ _ _ 13 [_, _] [_] _
      refine ab_go ok_SF_game 1 rfl ?_
      show ab_Z m_SF_game _ _ _ 17 [_, _] [_] _
      exact ab_rI ok_SF_game rfl (⟨by rw [ec, q2 _ (Nat.le_refl _)], s1, rfl, hs⟩)
    · intro h2
      show ab_Z m_SF_game _ _ _ 14 [_, _] [] _
      rw [if_neg h2]
      refine ab_go ok_SF_game 2 rfl ?_
      show ab_Z m_SF_game _ _ _ 16 [_, _] [_] _
      refine ab_cl ok_SF_game rfl [_] [] rfl ⟨_, _, rfl, rfl, Or.inl ⟨_, _, rfl, rfl⟩⟩ (Nat.le_of_ble_eq_true rfl) (t_Ch_princesPick (d + 3) fm X s1 t hC1.1.2.2.1 h6) ?_
      rintro _ _ ⟨rfl, rfl⟩
      show ab_Z m_SF_game _ _ _ 17 [_, _] [_] _
      have hcb : cloN s nd < 2 ^ nd := bitsN_lt _ nd
      have hcl := cloN_lt s h6
      rw [ec, fstV_cg (p := pickB (s1 55) (s1 56) (cloN s nd)) (q := pickB (fun e => bdV s PB PF nd e 0) (gnT (fun e => bdV s PB PF nd e 0) (cloN s nd)) (cloN s nd)) 6 0 (fun j _ hj => by
        unfold pickB
        by_cases hb4 : (cloN s nd).testBit j = true
        · have hend : j < nd := by
            rcases Nat.lt_or_ge j nd with h | h
            · exact h
            · have h8 : 2 ^ nd ≤ 2 ^ j := Nat.pow_le_pow_right (by decide) h
              rw [Nat.testBit_lt_two_pow (by omega)] at hb4
              exact absurd hb4 (by decide)
          have hxl := xor_lt _ hcl j (by omega) hb4
          rw [q1 j hend, q2 _ (by omega), q2 _ (Nat.le_refl _)]
        · rw [Bool.not_eq_true] at hb4
          rw [hb4]; rfl)]
      exact ab_rI ok_SF_game rfl (⟨rfl, s1, rfl, hs⟩)
theorem t_Ch_isSealedByOne (hC : CI s nc nd nt PT PG PB PF) {k : Nat} (hk : k < nt) (x : Int32) : ab_T g_Ch_isSealedByOne (d + 2) (0, 0) [.ref 52, .int (nI k), .int x] (HA fm X s t) (PI (bB (hbF x (s 11 (33 + (s 21 (2 * k)).toNatClampNeg)) || hbF x (s 11 (33 + (s 21 (2 * k + 1)).toNatClampNeg)))) (HA fm X s t)) := by
  have h6 : nd ≤ 6 := hC.1.2.2.2.1
  have ht6 : nt ≤ 6 := hC.1.2.2.2.2.2.1
  obtain ⟨e, he, hee⟩ := hC.2.2 k hk 0 (by decide)
  obtain ⟨o, ho, hoo⟩ := hC.2.2 k hk 1 (by decide)
  rw [Nat.add_zero] at hee
  refine ab_T_of (M := m_Ch_isSealedByOne) rfl rfl (Nat.le_of_ble_eq_true rfl) ?_
  show ab_Z m_Ch_isSealedByOne _ _ _ 0 [_, _, _, _, _] [] _
  refine ab_go ok_Ch_isSealedByOne 8 rfl ?_
  show ab_Z m_Ch_isSealedByOne _ _ _ 8 [_, _, _, _, _] [_, _, _, _] _
  refine ab_cl ok_Ch_isSealedByOne rfl [_, _, _] [_] rfl ⟨_, _, rfl, rfl, Or.inl ⟨_, _, rfl, rfl⟩⟩ (Nat.le_of_ble_eq_true rfl) (t_Te_treatyDeed d fm X s t (show k < 6 by omega) (f := 0) (by decide)) ?_
  rintro _ _ ⟨rfl, rfl⟩
  show ab_Z m_Ch_isSealedByOne _ _ _ 9 [_, _, _, _, _] [_, _] _
  rw [show s 21 (2 * k + 0) = nI e from hee, hee, hoo, nI_c (by omega), nI_c (by omega)]
  refine ab_cl ok_Ch_isSealedByOne rfl [_, _] [] rfl ⟨_, _, rfl, rfl, Or.inl ⟨_, _, rfl, rfl⟩⟩ (Nat.le_of_ble_eq_true rfl) (t_Sc_sealerOf (d + 1) fm X s t (show e < 6 by omega)) ?_
  rintro _ _ ⟨rfl, rfl⟩
  show ab_Z m_Ch_isSealedByOne _ _ _ 10 [_, _, _, _, _] [_] _
  refine ab_go ok_Ch_isSealedByOne 9 rfl ?_
  show ab_Z m_Ch_isSealedByOne _ _ _ 19 [_, _, _, _, _] [_, _, _, _] _
  refine ab_cl ok_Ch_isSealedByOne rfl [_, _, _] [_] rfl ⟨_, _, rfl, rfl, Or.inl ⟨_, _, rfl, rfl⟩⟩ (Nat.le_of_ble_eq_true rfl) (t_Te_treatyDeed d fm X s t (show k < 6 by omega) (f := 1) (by decide)) ?_
  rintro _ _ ⟨rfl, rfl⟩
  show ab_Z m_Ch_isSealedByOne _ _ _ 20 [_, _, _, _, _] [_, _] _
  rw [hoo]
  refine ab_cl ok_Ch_isSealedByOne rfl [_, _] [] rfl ⟨_, _, rfl, rfl, Or.inl ⟨_, _, rfl, rfl⟩⟩ (Nat.le_of_ble_eq_true rfl) (t_Sc_sealerOf (d + 1) fm X s t (show o < 6 by omega)) ?_
  rintro _ _ ⟨rfl, rfl⟩
  show ab_Z m_Ch_isSealedByOne _ _ _ 21 [_, _, _, _, _] [_] _
  refine ab_go ok_Ch_isSealedByOne 3 rfl ?_
  show ab_Z m_Ch_isSealedByOne _ _ _ 24 [_, _, _, _, _] [_, _] _
  refine ab_cl ok_Ch_isSealedByOne rfl [_, _] [] rfl rfl (Nat.le_of_ble_eq_true rfl) (t_SF_hasBit (d + 1) _ _ _) ?_
  rintro _ _ ⟨rfl, rfl⟩
  show ab_Z m_Ch_isSealedByOne _ _ _ 25 [_, _, _, _, _] [_] _
  refine ab_br ok_Ch_isSealedByOne rfl rfl ?_ ?_
  · intro h1
    show ab_Z m_Ch_isSealedByOne _ _ _ 26 [_, _, _, _, _] [] _
    refine ab_go ok_Ch_isSealedByOne 2 rfl ?_
    show ab_Z m_Ch_isSealedByOne _ _ _ 28 [_, _, _, _, _] [_, _] _
    refine ab_cl ok_Ch_isSealedByOne rfl [_, _] [] rfl rfl (Nat.le_of_ble_eq_true rfl) (t_SF_hasBit (d + 1) _ _ _) ?_
    rintro _ _ ⟨rfl, rfl⟩
    show ab_Z m_Ch_isSealedByOne _ _ _ 29 [_, _, _, _, _] [_] _
    refine ab_br ok_Ch_isSealedByOne rfl rfl ?_ ?_
    · intro h2
      show ab_Z m_Ch_isSealedByOne _ _ _ 32 [_, _, _, _, _] [] _
      refine ab_go ok_Ch_isSealedByOne 1 rfl ?_
      show ab_Z m_Ch_isSealedByOne _ _ _ 33 [_, _, _, _, _] [_] _
      exact ab_rZ ok_Ch_isSealedByOne rfl (by decide) (⟨by rw [bB_0.mp h1, bB_0.mp h2]; rfl, rfl⟩)
    · intro h2
      show ab_Z m_Ch_isSealedByOne _ _ _ 30 [_, _, _, _, _] [] _
      refine ab_go ok_Ch_isSealedByOne 2 rfl ?_
      show ab_Z m_Ch_isSealedByOne _ _ _ 33 [_, _, _, _, _] [_] _
      exact ab_rZ ok_Ch_isSealedByOne rfl (by decide) (⟨by rw [bB_n0 h2, Bool.or_true]; rfl, rfl⟩)
  · intro h1
    show ab_Z m_Ch_isSealedByOne _ _ _ 30 [_, _, _, _, _] [] _
    refine ab_go ok_Ch_isSealedByOne 2 rfl ?_
    show ab_Z m_Ch_isSealedByOne _ _ _ 33 [_, _, _, _, _] [_] _
    exact ab_rZ ok_Ch_isSealedByOne rfl (by decide) (⟨by rw [bB_n0 h1, Bool.true_or]; rfl, rfl⟩)
theorem t_Ch_breakAll (hC : CI s nc nd nt PT PG PB PF) (cl : Nat) : ab_T g_Ch_breakAll (d + 3) (0, 0) [.ref 52, .int (nI cl)] (HA fm X s t) (PI (bB (allB (brkB s cl) nt)) (HA fm X s t)) := by
  have h6 : nd ≤ 6 := hC.1.2.2.2.1
  have ht6 : nt ≤ 6 := hC.1.2.2.2.2.2.1
  refine ab_T_of (M := m_Ch_breakAll) rfl rfl (Nat.le_of_ble_eq_true rfl) ?_
  show ab_Z m_Ch_breakAll _ _ _ 0 [_, _, _] [] _
  refine ab_go ok_Ch_breakAll 2 rfl ?_
  show ab_Z m_Ch_breakAll _ _ _ 2 [_, _, _] [] _
  refine lp_dn nt (fun k => allB (brkB s cl) k = true → ab_Z m_Ch_breakAll (d + 3) (0, 0) (PI (bB (allB (brkB s cl) nt)) (HA fm X s t)) 2 [some (.ref 52), some (.int (nI cl)), some (.int (nI k))] [] (HA fm X s t)) ?_ ?_ rfl
  · intro hb
    refine ab_go ok_Ch_breakAll 5 rfl ?_
    show ab_Z m_Ch_breakAll _ _ _ 7 [_, _, _] [_, _] _
    rw [hC.1.2.2.2.2.1]
    refine ab_br ok_Ch_breakAll rfl rfl ?_ ?_
    · intro h1
      show ab_Z m_Ch_breakAll _ _ _ 22 [_, _, _] [] _
      refine ab_go ok_Ch_breakAll 1 rfl ?_
      show ab_Z m_Ch_breakAll _ _ _ 23 [_, _, _] [_] _
      exact ab_rZ ok_Ch_breakAll rfl (by decide) (⟨by rw [hb]; rfl, rfl⟩)
    · intro h1
      show ab_Z m_Ch_breakAll _ _ _ 8 [_, _, _] [] _
      exact absurd (lp_out nt) h1
  · intro k hk ih hb
    refine ab_go ok_Ch_breakAll 5 rfl ?_
    show ab_Z m_Ch_breakAll _ _ _ 7 [_, _, _] [_, _] _
    rw [hC.1.2.2.2.2.1]
    refine ab_br ok_Ch_breakAll rfl rfl ?_ ?_
    · intro h1
      show ab_Z m_Ch_breakAll _ _ _ 22 [_, _, _] [] _
      exact absurd h1 (lp_in (by omega) hk)
    · intro h1
      show ab_Z m_Ch_breakAll _ _ _ 8 [_, _, _] [] _
      refine ab_go ok_Ch_breakAll 3 rfl ?_
      show ab_Z m_Ch_breakAll _ _ _ 11 [_, _, _] [_, _] _
      refine ab_cl ok_Ch_breakAll rfl [_, _] [] rfl ⟨_, _, rfl, rfl, Or.inl ⟨_, _, rfl, rfl⟩⟩ (Nat.le_of_ble_eq_true rfl) (t_Ha_isHeld d fm X s t hC.1.2.2.1 h6 ht6 hC.2 hk) ?_
      rintro _ _ ⟨rfl, rfl⟩
      show ab_Z m_Ch_breakAll _ _ _ 12 [_, _, _] [_] _
      refine ab_br ok_Ch_breakAll rfl rfl ?_ ?_
      · intro h2
        show ab_Z m_Ch_breakAll _ _ _ 20 [_, _, _] [] _
        have ih2 := ih (by rw [allB, hb, brkB, bB_0.mp h2]; rfl)
        rw [nI_succ] at ih2
        refine ab_go ok_Ch_breakAll 2 rfl ?_
        show ab_Z m_Ch_breakAll _ _ _ 2 [_, _, _] [] _
        exact ih2
      · intro h2
        show ab_Z m_Ch_breakAll _ _ _ 13 [_, _, _] [] _
        refine ab_go ok_Ch_breakAll 3 rfl ?_
        show ab_Z m_Ch_breakAll _ _ _ 16 [_, _, _] [_, _, _] _
        refine ab_cl ok_Ch_breakAll rfl [_, _, _] [] rfl ⟨_, _, rfl, rfl, Or.inl ⟨_, _, rfl, rfl⟩⟩ (Nat.le_of_ble_eq_true rfl) (t_Ch_isSealedByOne d fm X s t hC hk (nI cl)) ?_
        rintro _ _ ⟨rfl, rfl⟩
        show ab_Z m_Ch_breakAll _ _ _ 17 [_, _, _] [_] _
        refine ab_br ok_Ch_breakAll rfl rfl ?_ ?_
        · intro h3
          show ab_Z m_Ch_breakAll _ _ _ 18 [_, _, _] [] _
          refine ab_go ok_Ch_breakAll 1 rfl ?_
          show ab_Z m_Ch_breakAll _ _ _ 19 [_, _, _] [_] _
          exact ab_rZ ok_Ch_breakAll rfl (by decide) (⟨by rw [allB_no (i := k + 1) (by rw [allB, brkB, bB_n0 h2, bB_0.mp h3]; simp) nt (by omega)]; rfl, rfl⟩)
        · intro h3
          show ab_Z m_Ch_breakAll _ _ _ 20 [_, _, _] [] _
          have ih2 := ih (by rw [allB, hb, brkB, bB_n0 h2, bB_n0 h3]; rfl)
          rw [nI_succ] at ih2
          refine ab_go ok_Ch_breakAll 2 rfl ?_
          show ab_Z m_Ch_breakAll _ _ _ 2 [_, _, _] [] _
          exact ih2
theorem t_Ch_breakers (hC : CI s nc nd nt PT PG PB PF) : ab_T g_Ch_breakers (d + 4) (0, 0) [.ref 52] (HA fm X s t) (PI (nI (brkV s nt 32)) (HA fm X s t)) := by
  refine ab_T_of (M := m_Ch_breakers) rfl rfl (Nat.le_of_ble_eq_true rfl) ?_
  show ab_Z m_Ch_breakers _ _ _ 0 [_, _, _] [] _
  refine ab_go ok_Ch_breakers 4 rfl ?_
  show ab_Z m_Ch_breakers _ _ _ 4 [_, _, _] [] _
  generalize hV : brkV s nt 32 = V
  refine lp_dn 32 (fun k => ab_Z m_Ch_breakers (d + 4) (0, 0) (PI (nI V) (HA fm X s t)) 4 [some (.ref 52), some (.int (nI (brkV s nt k))), some (.int (nI k))] [] (HA fm X s t)) ?_ ?_
  · rw [hV]
    refine ab_go ok_Ch_breakers 2 rfl ?_
    show ab_Z m_Ch_breakers _ _ _ 6 [_, _, _] [_, _] _
    refine ab_go ok_Ch_breakers 1 rfl ?_
    show ab_Z m_Ch_breakers _ _ _ 20 [_, _, _] [] _
    refine ab_go ok_Ch_breakers 1 rfl ?_
    show ab_Z m_Ch_breakers _ _ _ 21 [_, _, _] [_] _
    exact ab_rI ok_Ch_breakers rfl (⟨rfl, rfl⟩)
  · intro k hk ih
    rw [brkV, nI_succ] at ih
    refine ab_go ok_Ch_breakers 2 rfl ?_
    show ab_Z m_Ch_breakers _ _ _ 6 [_, _, _] [_, _] _
    refine ab_br ok_Ch_breakers rfl rfl ?_ ?_
    · intro h1
      show ab_Z m_Ch_breakers _ _ _ 20 [_, _, _] [] _
      exact absurd h1 (lp_in (N := 32) (by decide) hk)
    · intro h1
      show ab_Z m_Ch_breakers _ _ _ 7 [_, _, _] [] _
      refine ab_go ok_Ch_breakers 1 rfl ?_
      show ab_Z m_Ch_breakers _ _ _ 8 [_, _, _] [_] _
      refine ab_cl ok_Ch_breakers rfl [_] [] rfl rfl (Nat.le_of_ble_eq_true rfl) (t_JI_bitCount (d + 3) _ _) ?_
      rintro _ _ ⟨rfl, rfl⟩
      show ab_Z m_Ch_breakers _ _ _ 9 [_, _, _] [_] _
      refine ab_go ok_Ch_breakers 1 rfl ?_
      show ab_Z m_Ch_breakers _ _ _ 10 [_, _, _] [_, _] _
      refine ab_cl ok_Ch_breakers rfl [_] [_] rfl rfl (Nat.le_of_ble_eq_true rfl) (t_JI_bitCount (d + 3) _ _) ?_
      rintro _ _ ⟨rfl, rfl⟩
      show ab_Z m_Ch_breakers _ _ _ 11 [_, _, _] [_, _] _
      refine ab_br ok_Ch_breakers rfl rfl ?_ ?_
      · intro h2
        show ab_Z m_Ch_breakers _ _ _ 18 [_, _, _] [] _
        rw [if_neg (fun q => by have := i_lt q.1; have := i_le h2; omega)] at ih
        refine ab_go ok_Ch_breakers 2 rfl ?_
        show ab_Z m_Ch_breakers _ _ _ 4 [_, _, _] [] _
        exact ih
      · intro h2
        show ab_Z m_Ch_breakers _ _ _ 12 [_, _, _] [] _
        refine ab_go ok_Ch_breakers 2 rfl ?_
        show ab_Z m_Ch_breakers _ _ _ 14 [_, _, _] [_, _] _
        refine ab_cl ok_Ch_breakers rfl [_, _] [] rfl ⟨_, _, rfl, rfl, Or.inl ⟨_, _, rfl, rfl⟩⟩ (Nat.le_of_ble_eq_true rfl) (t_Ch_breakAll d fm X s t hC k) ?_
        rintro _ _ ⟨rfl, rfl⟩
        show ab_Z m_Ch_breakers _ _ _ 15 [_, _, _] [_] _
        refine ab_br ok_Ch_breakers rfl rfl ?_ ?_
        · intro h3
          show ab_Z m_Ch_breakers _ _ _ 18 [_, _, _] [] _
          rw [if_neg (fun q => by rw [bB_0.mp h3] at q; exact absurd q.2 (by decide))] at ih
          refine ab_go ok_Ch_breakers 2 rfl ?_
          show ab_Z m_Ch_breakers _ _ _ 4 [_, _, _] [] _
          exact ih
        · intro h3
          show ab_Z m_Ch_breakers _ _ _ 16 [_, _, _] [] _
          rw [if_pos ⟨Int32.lt_iff_toInt_lt.mpr (i_nle h2), bB_n0 h3⟩] at ih
          refine ab_go ok_Ch_breakers 4 rfl ?_
          show ab_Z m_Ch_breakers _ _ _ 4 [_, _, _] [] _
          exact ih
theorem t_SF_breaks (hC : CI s nc nd nt PT PG PB PF) (w : Int32) : ab_T g_SF_breaks (d + 5) (0, 0) [.ref 0, .int w] (HA fm X s t) (PC (if w = 0 ∨ w = 1 then (if w = 0 then bcF (nI (brkV s nt 32)) else nI (brkV s nt 32)) else -1) fm X s t) := by
  refine ab_T_of (M := m_SF_breaks) rfl rfl (Nat.le_of_ble_eq_true rfl) ?_
  show ab_Z m_SF_breaks _ _ _ 0 [_, _] [] _
  refine ab_go ok_SF_breaks 1 rfl ?_
  show ab_Z m_SF_breaks _ _ _ 1 [_, _] [_] _
  refine ab_cl ok_SF_breaks rfl [_] [] rfl rfl (Nat.le_of_ble_eq_true rfl) (t_SF_isHow (d + 4) _ w) ?_
  rintro _ _ ⟨rfl, rfl⟩
  show ab_Z m_SF_breaks _ _ _ 2 [_, _] [_] _
  refine ab_br ok_SF_breaks rfl rfl ?_ ?_
  · intro h1
    show ab_Z m_SF_breaks _ _ _ 9 [_, _] [] _
    refine ab_go ok_SF_breaks 1 rfl ?_
    show ab_Z m_SF_breaks _ _ _ 10 [_, _] [_] _
    exact ab_rI ok_SF_breaks rfl (⟨by rw [if_neg (bI_0.mp h1)], s, rfl, KpC.rf s⟩)
  · intro h1
    show ab_Z m_SF_breaks _ _ _ 3 [_, _] [] _
    rw [if_pos (bI_n0 h1)]
    clear h1
    refine ab_go ok_SF_breaks 2 rfl ?_
    show ab_Z m_SF_breaks _ _ _ 5 [_, _] [_] _
    refine ab_cl ok_SF_breaks rfl [_] [] rfl ⟨_, _, rfl, rfl, Or.inl ⟨_, _, rfl, rfl⟩⟩ (Nat.le_of_ble_eq_true rfl) (t_Ch_breakers d fm X s t hC) ?_
    rintro _ _ ⟨rfl, rfl⟩
    show ab_Z m_SF_breaks _ _ _ 6 [_, _] [_] _
    refine ab_go ok_SF_breaks 1 rfl ?_
    show ab_Z m_SF_breaks _ _ _ 7 [_, _] [_, _] _
    refine ab_cl ok_SF_breaks rfl [_, _] [] rfl rfl (Nat.le_of_ble_eq_true rfl) (t_SF_countOrBits (d + 3) _ _ w) ?_
    rintro _ _ ⟨rfl, rfl⟩
    show ab_Z m_SF_breaks _ _ _ 8 [_, _] [_] _
    refine ab_go ok_SF_breaks 1 rfl ?_
    show ab_Z m_SF_breaks _ _ _ 10 [_, _] [_] _
    exact ab_rI ok_SF_breaks rfl (⟨rfl, s, rfl, KpC.rf s⟩)
end

