/-! the class's reader: names, levels -/
def DcB (s : Nat → Nat → Int32) (t : Nat → Nat → Int64) (y : Nat × (Nat → Nat) × (Nat → Nat) × (Nat → List Nat)) : Prop := s 57 11 = nI y.1 ∧ y.1 ≤ 5 ∧ ∀ c, c < y.1 → s 59 c = nI (y.2.1 c) ∧ t 58 c = lN (cdL 32 (y.2.2.2 c)) ∧ nmO (y.2.2.2 c) ∧ ∀ f, f < 3 → s 60 (3 * c + f) = nI (y.2.2.1 (3 * c + f))
def DdB (s : Nat → Nat → Int32) (t : Nat → Nat → Int64) (y : Nat × (Nat → Nat) × (Nat → Nat) × (Nat → List Nat)) : Prop := s 57 12 = nI y.1 ∧ y.1 ≤ 6 ∧ ∀ c, c < y.1 → s 62 c = nI (y.2.1 c) ∧ t 61 c = lN (cdL 32 (y.2.2.2 c)) ∧ nmO (y.2.2.2 c) ∧ ∀ f, f < 3 → s 63 (3 * c + f) = nI (y.2.2.1 (3 * c + f))
def DtB (s : Nat → Nat → Int32) (y : Nat × (Nat → Int32)) : Prop := s 57 13 = nI y.1 ∧ y.1 ≤ 6 ∧ ∀ j, j < 2 * y.1 → s 64 j = y.2 j
def DsB (s : Nat → Nat → Int32) (y : Nat × Nat) : Prop := s 57 14 = nI y.1 ∧ s 57 15 = nI y.2
def DlB (s : Nat → Nat → Int32) (y : Nat → List (List Ins)) : Prop := CLaw s 65 (y 0) ∧ CLaw s 69 (y 1) ∧ CLaw s 73 (y 2) ∧ CLaw s 77 (y 3)
def DrC (s : Nat → Nat → Int32) (t : Nat → Nat → Int64) (x : Tx) : Prop := DcB s t x.1 ∧ DdB s t x.2.1 ∧ DtB s x.2.2.1 ∧ DsB s x.2.2.2.1 ∧ DlB s x.2.2.2.2.1
theorem DcB.of {s s' : Nat → Nat → Int32} {t t' : Nat → Nat → Int64} {y : Nat × (Nat → Nat) × (Nat → Nat) × (Nat → List Nat)} (h1 : s' 57 11 = s 57 11) (h2 : s' 59 = s 59) (h3 : s' 60 = s 60) (h4 : t' 58 = t 58) (h : DcB s t y) : DcB s' t' y := by
  unfold DcB
  rw [h1, h2, h3, h4]
  exact h
theorem DdB.of {s s' : Nat → Nat → Int32} {t t' : Nat → Nat → Int64} {y : Nat × (Nat → Nat) × (Nat → Nat) × (Nat → List Nat)} (h1 : s' 57 12 = s 57 12) (h2 : s' 62 = s 62) (h3 : s' 63 = s 63) (h4 : t' 61 = t 61) (h : DdB s t y) : DdB s' t' y := by
  unfold DdB
  rw [h1, h2, h3, h4]
  exact h
theorem DtB.of {s s' : Nat → Nat → Int32} {y : Nat × (Nat → Int32)} (h1 : s' 57 13 = s 57 13) (h2 : s' 64 = s 64) (h : DtB s y) : DtB s' y := by
  unfold DtB
  rw [h1, h2]
  exact h
theorem DsB.of {s s' : Nat → Nat → Int32} {y : Nat × Nat} (h1 : s' 57 14 = s 57 14) (h2 : s' 57 15 = s 57 15) (h : DsB s y) : DsB s' y := by
  unfold DsB
  rw [h1, h2]
  exact h
theorem CLaw.of {s s' : Nat → Nat → Int32} {p : Nat} {P : List (List Ins)} (h1 : s' p 4 = s p 4) (h2 : s' (p + 1) = s (p + 1)) (h3 : s' (p + 2) = s (p + 2)) (h : CLaw s p P) : CLaw s' p P := by
  unfold CLaw
  rw [h1, h2, h3]
  exact h
theorem DlB.of {s s' : Nat → Nat → Int32} {y : Nat → List (List Ins)} (h : ∀ c, 65 ≤ c → c ≤ 80 → s' c = s c) (hl : DlB s y) : DlB s' y := ⟨hl.1.of (by rw [h 65 (by decide) (by decide)]) (h 66 (by decide) (by decide)) (h 67 (by decide) (by decide)), hl.2.1.of (by rw [h 69 (by decide) (by decide)]) (h 70 (by decide) (by decide)) (h 71 (by decide) (by decide)), hl.2.2.1.of (by rw [h 73 (by decide) (by decide)]) (h 74 (by decide) (by decide)) (h 75 (by decide) (by decide)), hl.2.2.2.of (by rw [h 77 (by decide) (by decide)]) (h 78 (by decide) (by decide)) (h 79 (by decide) (by decide))⟩
theorem DrC.l {s s' : Nat → Nat → Int32} {t : Nat → Nat → Int64} {x : Tx} (h : KL s s') (hD : DrC s t x) : DrC s' t x := by
  have e : ∀ c, c ≠ 8 → s' c = s c := fun c hc => funext fun k => h c k hc
  exact ⟨hD.1.of (by rw [e 57 (by decide)]) (e 59 (by decide)) (e 60 (by decide)) rfl, hD.2.1.of (by rw [e 57 (by decide)]) (e 62 (by decide)) (e 63 (by decide)) rfl, hD.2.2.1.of (by rw [e 57 (by decide)]) (e 64 (by decide)), hD.2.2.2.1.of (by rw [e 57 (by decide)]) (by rw [e 57 (by decide)]), hD.2.2.2.2.of (fun c h1 h2 => e c (by omega))⟩
theorem fstM_no (p : Nat → Bool) : ∀ (n k : Nat), (∀ j, k ≤ j → j < k + n → p j = false) → fstM p k n = -1
  | 0, k, _ => rfl
  | n + 1, k, h => by
    rw [fstM, h k (Nat.le_refl _) (by omega), if_neg (by decide)]
    exact fstM_no p n (k + 1) (fun j a b => h j (by omega) (by omega))
theorem fstM_at {p : Nat → Bool} {e : Nat} (hp : p e = true) : ∀ (n k : Nat), k ≤ e → e < k + n → (∀ j, k ≤ j → j < e → p j = false) → fstM p k n = nI e
  | 0, k, h1, h2, _ => by omega
  | n + 1, k, h1, h2, hn => by
    rw [fstM]
    by_cases hk : k = e
    · rw [hk, hp, if_pos rfl]
    · rw [hn k (Nat.le_refl _) (by omega), if_neg (by decide)]
      exact fstM_at hp n (k + 1) (by omega) (by omega) (fun j a b => hn j (by omega) b)
theorem fstM_or (p : Nat → Bool) : ∀ (n k : Nat), (fstM p k n = -1 ∧ ∀ j, k ≤ j → j < k + n → p j = false) ∨ ∃ j, k ≤ j ∧ j < k + n ∧ p j = true ∧ fstM p k n = nI j
  | 0, k => Or.inl ⟨rfl, fun j a b => absurd b (by omega)⟩
  | n + 1, k => by
    rw [fstM]
    by_cases hp : p k = true
    · rw [if_pos hp]; exact Or.inr ⟨k, Nat.le_refl _, by omega, hp, rfl⟩
    · rw [if_neg hp]
      rcases fstM_or p n (k + 1) with ⟨h1, h2⟩ | ⟨j, h1, h2, h3, h4⟩
      · refine Or.inl ⟨h1, fun j a b => ?_⟩
        by_cases hjk : j = k
        · rw [hjk]; exact Bool.not_eq_true _ ▸ hp
        · exact h2 j (by omega) (by omega)
      · exact Or.inr ⟨j, by omega, by omega, h3, h4⟩
theorem anyN_t {p : Nat → Bool} : ∀ {n : Nat}, anyN p n = true ↔ ∃ k, k < n ∧ p k = true
  | 0 => ⟨fun h => absurd (show false = true from h) (by decide), fun ⟨k, h, _⟩ => absurd h (by omega)⟩
  | n + 1 => by
    rw [anyN, Bool.or_eq_true, anyN_t]
    constructor
    · rintro (⟨k, h1, h2⟩ | h)
      · exact ⟨k, by omega, h2⟩
      · exact ⟨n, by omega, h⟩
    · rintro ⟨k, h1, h2⟩
      by_cases hk : k = n
      · subst hk; exact Or.inr h2
      · exact Or.inl ⟨k, by omega, h2⟩
theorem deed_any (x : Tx) (w : List Nat) (h6 : xNd x ≤ 6) : (deedX x w = -1) ↔ anyN (fun e => decide (xDn x e = w)) (xNd x) = false := by
  unfold deedX
  rcases fstM_or (fun e => decide (xDn x e = w)) (xNd x) 0 with ⟨h1, h2⟩ | ⟨j, h1, h2, h3, h4⟩
  · rw [h1]
    refine ⟨fun _ => ?_, fun _ => rfl⟩
    cases hx : anyN (fun e => decide (xDn x e = w)) (xNd x)
    · rfl
    · obtain ⟨k, q1, q2⟩ := anyN_t.mp hx
      have := h2 k (by omega) (by omega)
      rw [q2] at this; cases this
  · rw [h4]
    refine ⟨fun z => ?_, fun z => ?_⟩
    · have := congrArg Int32.toInt z
      rw [nI_t (by omega)] at this
      have h5 : (-1 : Int32).toInt = -1 := rfl
      omega
    · rw [anyN_t.mpr ⟨j, by omega, h3⟩] at z; cases z
section
variable (d : Nat) (fm : Value) (X : Nat × (Nat → Int32)) (s : Nat → Nat → Int32) (t : Nat → Nat → Int64)
variable {K P v : Nat → Nat} {nm : Nat → List Nat}
theorem t_SF_putX_59 (i : Int32) (x : Int32) : ab_T g_SF_put d (0, 0) [.ref 59, .int i, .int x] (HA fm X s t) (fun r h => r = none ∧ ∃ s', h = HA fm X s' t ∧ (∀ c, c ≠ 59 → s' c = s c) ∧ ∀ k, k < 5 → i = nI k → s' = ab_up s 59 k x) := by
  refine ab_T_of (M := m_SF_put) rfl rfl (Nat.le_of_ble_eq_true rfl) ?_
  show ab_Z m_SF_put _ _ _ 0 [_, _, _] [] _
  refine ab_go ok_SF_put 1 rfl ?_
  show ab_Z m_SF_put _ _ _ 1 [_, _, _] [_] _
  refine ab_br ok_SF_put rfl rfl ?_ ?_
  · intro hc
    show ab_Z m_SF_put _ _ _ 10 [_, _, _] [] _
    exact ab_rV ok_SF_put rfl (⟨rfl, s, rfl, fun _ _ => rfl, fun k hk hi => absurd (hi ▸ hc) (nI_l0 (by omega))⟩)
  · intro hc
    show ab_Z m_SF_put _ _ _ 2 [_, _, _] [] _
    refine ab_go ok_SF_put 3 rfl ?_
    show ab_Z m_SF_put _ _ _ 5 [_, _, _] [_, _] _
    refine ab_br ok_SF_put rfl rfl ?_ ?_
    · intro hd
      show ab_Z m_SF_put _ _ _ 10 [_, _, _] [] _
      exact ab_rV ok_SF_put rfl (⟨rfl, s, rfl, fun _ _ => rfl, fun k hk hi => absurd (hi ▸ hd) (nI_ge hk (by decide))⟩)
    · intro hd
      show ab_Z m_SF_put _ _ _ 6 [_, _, _] [] _
      have h0 := i_nn hc
      have h1 : i.toInt < 5 := i_nleK (z := 5) rfl hd
      refine ab_go ok_SF_put 3 rfl ?_
      show ab_Z m_SF_put _ _ _ 9 [_, _, _] [_, _, _] _
      refine ab_ck ok_SF_put rfl rfl (⟨h0, h1⟩) ?_
      show ab_Z m_SF_put _ _ _ 10 [_, _, _] [] _
      exact ab_rV ok_SF_put rfl (⟨rfl, _, rfl, fun c hc => ab_up_o hc, fun k hk hi => by rw [hi, nI_c (by omega)]⟩)
theorem t_SF_putX_60 (i : Int32) (x : Int32) : ab_T g_SF_put d (0, 0) [.ref 60, .int i, .int x] (HA fm X s t) (fun r h => r = none ∧ ∃ s', h = HA fm X s' t ∧ (∀ c, c ≠ 60 → s' c = s c) ∧ ∀ k, k < 15 → i = nI k → s' = ab_up s 60 k x) := by
  refine ab_T_of (M := m_SF_put) rfl rfl (Nat.le_of_ble_eq_true rfl) ?_
  show ab_Z m_SF_put _ _ _ 0 [_, _, _] [] _
  refine ab_go ok_SF_put 1 rfl ?_
  show ab_Z m_SF_put _ _ _ 1 [_, _, _] [_] _
  refine ab_br ok_SF_put rfl rfl ?_ ?_
  · intro hc
    show ab_Z m_SF_put _ _ _ 10 [_, _, _] [] _
    exact ab_rV ok_SF_put rfl (⟨rfl, s, rfl, fun _ _ => rfl, fun k hk hi => absurd (hi ▸ hc) (nI_l0 (by omega))⟩)
  · intro hc
    show ab_Z m_SF_put _ _ _ 2 [_, _, _] [] _
    refine ab_go ok_SF_put 3 rfl ?_
    show ab_Z m_SF_put _ _ _ 5 [_, _, _] [_, _] _
    refine ab_br ok_SF_put rfl rfl ?_ ?_
    · intro hd
      show ab_Z m_SF_put _ _ _ 10 [_, _, _] [] _
      exact ab_rV ok_SF_put rfl (⟨rfl, s, rfl, fun _ _ => rfl, fun k hk hi => absurd (hi ▸ hd) (nI_ge hk (by decide))⟩)
    · intro hd
      show ab_Z m_SF_put _ _ _ 6 [_, _, _] [] _
      have h0 := i_nn hc
      have h1 : i.toInt < 15 := i_nleK (z := 15) rfl hd
      refine ab_go ok_SF_put 3 rfl ?_
      show ab_Z m_SF_put _ _ _ 9 [_, _, _] [_, _, _] _
      refine ab_ck ok_SF_put rfl rfl (⟨h0, h1⟩) ?_
      show ab_Z m_SF_put _ _ _ 10 [_, _, _] [] _
      exact ab_rV ok_SF_put rfl (⟨rfl, _, rfl, fun c hc => ab_up_o hc, fun k hk hi => by rw [hi, nI_c (by omega)]⟩)
theorem t_SF_putX_62 (i : Int32) (x : Int32) : ab_T g_SF_put d (0, 0) [.ref 62, .int i, .int x] (HA fm X s t) (fun r h => r = none ∧ ∃ s', h = HA fm X s' t ∧ (∀ c, c ≠ 62 → s' c = s c) ∧ ∀ k, k < 6 → i = nI k → s' = ab_up s 62 k x) := by
  refine ab_T_of (M := m_SF_put) rfl rfl (Nat.le_of_ble_eq_true rfl) ?_
  show ab_Z m_SF_put _ _ _ 0 [_, _, _] [] _
  refine ab_go ok_SF_put 1 rfl ?_
  show ab_Z m_SF_put _ _ _ 1 [_, _, _] [_] _
  refine ab_br ok_SF_put rfl rfl ?_ ?_
  · intro hc
    show ab_Z m_SF_put _ _ _ 10 [_, _, _] [] _
    exact ab_rV ok_SF_put rfl (⟨rfl, s, rfl, fun _ _ => rfl, fun k hk hi => absurd (hi ▸ hc) (nI_l0 (by omega))⟩)
  · intro hc
    show ab_Z m_SF_put _ _ _ 2 [_, _, _] [] _
    refine ab_go ok_SF_put 3 rfl ?_
    show ab_Z m_SF_put _ _ _ 5 [_, _, _] [_, _] _
    refine ab_br ok_SF_put rfl rfl ?_ ?_
    · intro hd
      show ab_Z m_SF_put _ _ _ 10 [_, _, _] [] _
      exact ab_rV ok_SF_put rfl (⟨rfl, s, rfl, fun _ _ => rfl, fun k hk hi => absurd (hi ▸ hd) (nI_ge hk (by decide))⟩)
    · intro hd
      show ab_Z m_SF_put _ _ _ 6 [_, _, _] [] _
      have h0 := i_nn hc
      have h1 : i.toInt < 6 := i_nleK (z := 6) rfl hd
      refine ab_go ok_SF_put 3 rfl ?_
      show ab_Z m_SF_put _ _ _ 9 [_, _, _] [_, _, _] _
      refine ab_ck ok_SF_put rfl rfl (⟨h0, h1⟩) ?_
      show ab_Z m_SF_put _ _ _ 10 [_, _, _] [] _
      exact ab_rV ok_SF_put rfl (⟨rfl, _, rfl, fun c hc => ab_up_o hc, fun k hk hi => by rw [hi, nI_c (by omega)]⟩)
theorem t_SF_putX_63 (i : Int32) (x : Int32) : ab_T g_SF_put d (0, 0) [.ref 63, .int i, .int x] (HA fm X s t) (fun r h => r = none ∧ ∃ s', h = HA fm X s' t ∧ (∀ c, c ≠ 63 → s' c = s c) ∧ ∀ k, k < 18 → i = nI k → s' = ab_up s 63 k x) := by
  refine ab_T_of (M := m_SF_put) rfl rfl (Nat.le_of_ble_eq_true rfl) ?_
  show ab_Z m_SF_put _ _ _ 0 [_, _, _] [] _
  refine ab_go ok_SF_put 1 rfl ?_
  show ab_Z m_SF_put _ _ _ 1 [_, _, _] [_] _
  refine ab_br ok_SF_put rfl rfl ?_ ?_
  · intro hc
    show ab_Z m_SF_put _ _ _ 10 [_, _, _] [] _
    exact ab_rV ok_SF_put rfl (⟨rfl, s, rfl, fun _ _ => rfl, fun k hk hi => absurd (hi ▸ hc) (nI_l0 (by omega))⟩)
  · intro hc
    show ab_Z m_SF_put _ _ _ 2 [_, _, _] [] _
    refine ab_go ok_SF_put 3 rfl ?_
    show ab_Z m_SF_put _ _ _ 5 [_, _, _] [_, _] _
    refine ab_br ok_SF_put rfl rfl ?_ ?_
    · intro hd
      show ab_Z m_SF_put _ _ _ 10 [_, _, _] [] _
      exact ab_rV ok_SF_put rfl (⟨rfl, s, rfl, fun _ _ => rfl, fun k hk hi => absurd (hi ▸ hd) (nI_ge hk (by decide))⟩)
    · intro hd
      show ab_Z m_SF_put _ _ _ 6 [_, _, _] [] _
      have h0 := i_nn hc
      have h1 : i.toInt < 18 := i_nleK (z := 18) rfl hd
      refine ab_go ok_SF_put 3 rfl ?_
      show ab_Z m_SF_put _ _ _ 9 [_, _, _] [_, _, _] _
      refine ab_ck ok_SF_put rfl rfl (⟨h0, h1⟩) ?_
      show ab_Z m_SF_put _ _ _ 10 [_, _, _] [] _
      exact ab_rV ok_SF_put rfl (⟨rfl, _, rfl, fun c hc => ab_up_o hc, fun k hk hi => by rw [hi, nI_c (by omega)]⟩)
theorem t_SF_putX_64 (i : Int32) (x : Int32) : ab_T g_SF_put d (0, 0) [.ref 64, .int i, .int x] (HA fm X s t) (fun r h => r = none ∧ ∃ s', h = HA fm X s' t ∧ (∀ c, c ≠ 64 → s' c = s c) ∧ ∀ k, k < 12 → i = nI k → s' = ab_up s 64 k x) := by
  refine ab_T_of (M := m_SF_put) rfl rfl (Nat.le_of_ble_eq_true rfl) ?_
  show ab_Z m_SF_put _ _ _ 0 [_, _, _] [] _
  refine ab_go ok_SF_put 1 rfl ?_
  show ab_Z m_SF_put _ _ _ 1 [_, _, _] [_] _
  refine ab_br ok_SF_put rfl rfl ?_ ?_
  · intro hc
    show ab_Z m_SF_put _ _ _ 10 [_, _, _] [] _
    exact ab_rV ok_SF_put rfl (⟨rfl, s, rfl, fun _ _ => rfl, fun k hk hi => absurd (hi ▸ hc) (nI_l0 (by omega))⟩)
  · intro hc
    show ab_Z m_SF_put _ _ _ 2 [_, _, _] [] _
    refine ab_go ok_SF_put 3 rfl ?_
    show ab_Z m_SF_put _ _ _ 5 [_, _, _] [_, _] _
    refine ab_br ok_SF_put rfl rfl ?_ ?_
    · intro hd
      show ab_Z m_SF_put _ _ _ 10 [_, _, _] [] _
      exact ab_rV ok_SF_put rfl (⟨rfl, s, rfl, fun _ _ => rfl, fun k hk hi => absurd (hi ▸ hd) (nI_ge hk (by decide))⟩)
    · intro hd
      show ab_Z m_SF_put _ _ _ 6 [_, _, _] [] _
      have h0 := i_nn hc
      have h1 : i.toInt < 12 := i_nleK (z := 12) rfl hd
      refine ab_go ok_SF_put 3 rfl ?_
      show ab_Z m_SF_put _ _ _ 9 [_, _, _] [_, _, _] _
      refine ab_ck ok_SF_put rfl rfl (⟨h0, h1⟩) ?_
      show ab_Z m_SF_put _ _ _ 10 [_, _, _] [] _
      exact ab_rV ok_SF_put rfl (⟨rfl, _, rfl, fun c hc => ab_up_o hc, fun k hk hi => by rw [hi, nI_c (by omega)]⟩)
theorem t_SF_putLongX_58 (i : Int32) (x : Int64) : ab_T g_SF_putLong d (0, 0) [.ref 58, .int i, .long x] (HA fm X s t) (fun r h => r = none ∧ ∃ t', h = HA fm X s t' ∧ (∀ c, c ≠ 58 → t' c = t c) ∧ ∀ k, k < 5 → i = nI k → t' = ab_up t 58 k x) := by
  refine ab_T_of (M := m_SF_putLong) rfl rfl (Nat.le_of_ble_eq_true rfl) ?_
  show ab_Z m_SF_putLong _ _ _ 0 [_, _, _, _] [] _
  refine ab_go ok_SF_putLong 1 rfl ?_
  show ab_Z m_SF_putLong _ _ _ 1 [_, _, _, _] [_] _
  refine ab_br ok_SF_putLong rfl rfl ?_ ?_
  · intro hc
    show ab_Z m_SF_putLong _ _ _ 10 [_, _, _, _] [] _
    exact ab_rV ok_SF_putLong rfl (⟨rfl, t, rfl, fun _ _ => rfl, fun k hk hi => absurd (hi ▸ hc) (nI_l0 (by omega))⟩)
  · intro hc
    show ab_Z m_SF_putLong _ _ _ 2 [_, _, _, _] [] _
    refine ab_go ok_SF_putLong 3 rfl ?_
    show ab_Z m_SF_putLong _ _ _ 5 [_, _, _, _] [_, _] _
    refine ab_br ok_SF_putLong rfl rfl ?_ ?_
    · intro hd
      show ab_Z m_SF_putLong _ _ _ 10 [_, _, _, _] [] _
      exact ab_rV ok_SF_putLong rfl (⟨rfl, t, rfl, fun _ _ => rfl, fun k hk hi => absurd (hi ▸ hd) (nI_ge hk (by decide))⟩)
    · intro hd
      show ab_Z m_SF_putLong _ _ _ 6 [_, _, _, _] [] _
      have h0 := i_nn hc
      have h1 : i.toInt < 5 := i_nleK (z := 5) rfl hd
      refine ab_go ok_SF_putLong 3 rfl ?_
      show ab_Z m_SF_putLong _ _ _ 9 [_, _, _, _] [_, _, _] _
      refine ab_ck ok_SF_putLong rfl rfl (⟨h0, h1⟩) ?_
      show ab_Z m_SF_putLong _ _ _ 10 [_, _, _, _] [] _
      exact ab_rV ok_SF_putLong rfl (⟨rfl, _, rfl, fun c hc => ab_up_o hc, fun k hk hi => by rw [hi, nI_c (by omega)]⟩)
theorem t_SF_putLongX_61 (i : Int32) (x : Int64) : ab_T g_SF_putLong d (0, 0) [.ref 61, .int i, .long x] (HA fm X s t) (fun r h => r = none ∧ ∃ t', h = HA fm X s t' ∧ (∀ c, c ≠ 61 → t' c = t c) ∧ ∀ k, k < 6 → i = nI k → t' = ab_up t 61 k x) := by
  refine ab_T_of (M := m_SF_putLong) rfl rfl (Nat.le_of_ble_eq_true rfl) ?_
  show ab_Z m_SF_putLong _ _ _ 0 [_, _, _, _] [] _
  refine ab_go ok_SF_putLong 1 rfl ?_
  show ab_Z m_SF_putLong _ _ _ 1 [_, _, _, _] [_] _
  refine ab_br ok_SF_putLong rfl rfl ?_ ?_
  · intro hc
    show ab_Z m_SF_putLong _ _ _ 10 [_, _, _, _] [] _
    exact ab_rV ok_SF_putLong rfl (⟨rfl, t, rfl, fun _ _ => rfl, fun k hk hi => absurd (hi ▸ hc) (nI_l0 (by omega))⟩)
  · intro hc
    show ab_Z m_SF_putLong _ _ _ 2 [_, _, _, _] [] _
    refine ab_go ok_SF_putLong 3 rfl ?_
    show ab_Z m_SF_putLong _ _ _ 5 [_, _, _, _] [_, _] _
    refine ab_br ok_SF_putLong rfl rfl ?_ ?_
    · intro hd
      show ab_Z m_SF_putLong _ _ _ 10 [_, _, _, _] [] _
      exact ab_rV ok_SF_putLong rfl (⟨rfl, t, rfl, fun _ _ => rfl, fun k hk hi => absurd (hi ▸ hd) (nI_ge hk (by decide))⟩)
    · intro hd
      show ab_Z m_SF_putLong _ _ _ 6 [_, _, _, _] [] _
      have h0 := i_nn hc
      have h1 : i.toInt < 6 := i_nleK (z := 6) rfl hd
      refine ab_go ok_SF_putLong 3 rfl ?_
      show ab_Z m_SF_putLong _ _ _ 9 [_, _, _, _] [_, _, _] _
      refine ab_ck ok_SF_putLong rfl rfl (⟨h0, h1⟩) ?_
      show ab_Z m_SF_putLong _ _ _ 10 [_, _, _, _] [] _
      exact ab_rV ok_SF_putLong rfl (⟨rfl, _, rfl, fun c hc => ab_up_o hc, fun k hk hi => by rw [hi, nI_c (by omega)]⟩)
theorem t_Te_deedNamed {x : Tx} (hD : DdB s t x.2.1) {w : List Nat} (hw : nmO w) : ab_T g_Te_deedNamed d (0, 0) [.ref 57, .long (lN (cdL 32 w))] (HA fm X s t) (PI (deedX x w) (HA fm X s t)) := by
  obtain ⟨h1, h2, h3⟩ := hD
  generalize hPo : PI (deedX x w) (HA fm X s t) = Po
  refine ab_T_of (M := m_Te_deedNamed) rfl rfl (Nat.le_of_ble_eq_true rfl) ?_
  show ab_Z m_Te_deedNamed _ _ _ 0 [_, _, _, _] [] _
  refine ab_go ok_Te_deedNamed 2 rfl ?_
  show ab_Z m_Te_deedNamed _ _ _ 2 [_, _, _, _] [] _
  refine lp_dn (xNd x) (fun k => (∀ j, j < k → xDn x j ≠ w) → ab_Z m_Te_deedNamed d (0, 0) Po 2 [some (.ref 57), some (.long (lN (cdL 32 w))), none, some (.int (nI k))] [] (HA fm X s t)) ?_ ?_ (fun j hj => absurd hj (by omega))
  · intro hn
    refine ab_go ok_Te_deedNamed 3 rfl ?_
    show ab_Z m_Te_deedNamed _ _ _ 5 [_, _, _, _] [_, _] _
    rw [h1]
    refine ab_br ok_Te_deedNamed rfl rfl ?_ ?_
    · intro g1
      show ab_Z m_Te_deedNamed _ _ _ 22 [_, _, _, _] [] _
      refine ab_go ok_Te_deedNamed 1 rfl ?_
      show ab_Z m_Te_deedNamed _ _ _ 23 [_, _, _, _] [_] _
      have fin : Po (some (.int (-1))) (HA fm X s t) := by
        rw [← hPo]
        refine ⟨?_, rfl⟩
        unfold deedX
        rw [fstM_no _ _ _ (fun j _ hj => decide_eq_false (hn j (by omega)))]
      exact ab_rI ok_Te_deedNamed rfl (fin)
    · intro g1
      show ab_Z m_Te_deedNamed _ _ _ 6 [_, _, _, _] [] _
      exact absurd (lp_out _) g1
  · intro k hk ih hn
    obtain ⟨q1, q2, q3, q4⟩ := h3 k hk
    have hce := cd_eq (B := 32) (by decide) (by decide) q3.1 q3.2 hw.1 hw.2
    have hk6 : k < 6 := Nat.lt_of_lt_of_le hk h2
    refine ab_go ok_Te_deedNamed 3 rfl ?_
    show ab_Z m_Te_deedNamed _ _ _ 5 [_, _, _, _] [_, _] _
    rw [h1]
    refine ab_br ok_Te_deedNamed rfl rfl ?_ ?_
    · intro g1
      show ab_Z m_Te_deedNamed _ _ _ 22 [_, _, _, _] [] _
      exact absurd g1 (lp_in (Nat.lt_of_le_of_lt h2 (by decide)) hk)
    · intro g1
      show ab_Z m_Te_deedNamed _ _ _ 6 [_, _, _, _] [] _
      refine ab_go ok_Te_deedNamed 4 rfl ?_
      show ab_Z m_Te_deedNamed _ _ _ 10 [_, _, _, _] [_, _] _
      refine ab_br ok_Te_deedNamed rfl rfl ?_ ?_
      · intro g2
        show ab_Z m_Te_deedNamed _ _ _ 22 [_, _, _, _] [] _
        exact absurd g2 (lp_in (N := 6) (by decide) hk6)
      · intro g2
        show ab_Z m_Te_deedNamed _ _ _ 11 [_, _, _, _] [] _
        refine ab_go ok_Te_deedNamed 3 rfl ?_
        show ab_Z m_Te_deedNamed _ _ _ 14 [_, _, _, _] [_, _] _
        refine ab_la ok_Te_deedNamed rfl rfl (k := k) (by first | rfl | (simp only [LL1, LL2, LL3, LL4, LL5, LL6, LL7, LL8, LL10, LL15, LL18, LL20, LL21, LL22, LL23, LL24, LL32, LL39, LL40, LL130, LL420, pk_mul, nI_add]; done) | (simp only [LL1, LL2, LL3, LL4, LL5, LL6, LL7, LL8, LL10, LL15, LL18, LL20, LL21, LL22, LL23, LL24, LL32, LL39, LL40, LL130, LL420, pk_mul, nI_add]; congr 1; omega)) (by omega) (Nat.le_of_ble_eq_true rfl) ?_
        show ab_Z m_Te_deedNamed _ _ _ 15 [_, _, _, _] [_] _
        rw [q2]
        refine ab_go ok_Te_deedNamed 2 rfl ?_
        show ab_Z m_Te_deedNamed _ _ _ 17 [_, _, _, _] [_] _
        refine ab_br ok_Te_deedNamed rfl rfl ?_ ?_
        · intro g3
          show ab_Z m_Te_deedNamed _ _ _ 18 [_, _, _, _] [] _
          have g3' := hce.mp (lcmp_eq.mp g3)
          refine ab_go ok_Te_deedNamed 1 rfl ?_
          show ab_Z m_Te_deedNamed _ _ _ 19 [_, _, _, _] [_] _
          have fin : Po (some (.int (nI k))) (HA fm X s t) := by
            rw [← hPo]
            refine ⟨?_, rfl⟩
            unfold deedX
            rw [fstM_at (p := fun e => decide (xDn x e = w)) (e := k) (decide_eq_true g3') (xNd x) 0 (by omega) (by omega) (fun j _ hj => decide_eq_false (hn j hj))]
          exact ab_rI ok_Te_deedNamed rfl (fin)
        · intro g3
          show ab_Z m_Te_deedNamed _ _ _ 20 [_, _, _, _] [] _
          have g3' : xDn x k ≠ w := fun z => g3 (lcmp_eq.mpr (hce.mpr z))
          have ih2 := ih (fun j hj => by
            by_cases hjk : j = k
            · rw [hjk]; exact g3'
            · exact hn j (by omega))
          rw [nI_succ] at ih2
          refine ab_go ok_Te_deedNamed 2 rfl ?_
          show ab_Z m_Te_deedNamed _ _ _ 2 [_, _, _, _] [] _
          exact ih2
theorem t_Te_hasName {x : Tx} (hC : DcB s t x.1) (hD : DdB s t x.2.1) {w : List Nat} (hw : nmO w) : ab_T g_Te_hasName (d + 1) (0, 0) [.ref 57, .long (lN (cdL 32 w))] (HA fm X s t) (PI (bB (hasX x w)) (HA fm X s t)) := by
  obtain ⟨h1, h2, h3⟩ := hC
  generalize hPo : PI (bB (hasX x w)) (HA fm X s t) = Po
  have deeds : (∀ j, j < xNc x → xCn x j ≠ w) → ∀ l3, ab_Z m_Te_hasName (d + 1) (0, 0) Po 22 [some (.ref 57), some (.long (lN (cdL 32 w))), none, l3] [] (HA fm X s t) := by
    intro hn l3
    have hX : hasX x w = anyN (fun e => decide (xDn x e = w)) (xNd x) := by
      unfold hasX
      rw [show anyN (fun c => decide (xCn x c = w)) (xNc x) = false from by
        cases hx : anyN (fun c => decide (xCn x c = w)) (xNc x)
        · rfl
        · obtain ⟨k, q1, q2⟩ := anyN_t.mp hx
          exact absurd (of_decide_eq_true q2) (hn k q1), Bool.false_or]
    have hda := deed_any x w hD.2.1
    rw [← hX] at hda
    refine ab_go ok_Te_hasName 2 rfl ?_
    show ab_Z m_Te_hasName _ _ _ 24 [_, _, _, _] [_, _] _
    refine ab_cl ok_Te_hasName rfl [_, _] [] rfl ⟨_, _, rfl, rfl, Or.inl ⟨_, _, rfl, rfl⟩⟩ (Nat.le_of_ble_eq_true rfl) (t_Te_deedNamed d fm X s t hD hw) ?_
    rintro _ _ ⟨rfl, rfl⟩
    show ab_Z m_Te_hasName _ _ _ 25 [_, _, _, _] [_] _
    refine ab_go ok_Te_hasName 1 rfl ?_
    show ab_Z m_Te_hasName _ _ _ 26 [_, _, _, _] [_, _] _
    refine ab_br ok_Te_hasName rfl rfl ?_ ?_
    · intro g1
      show ab_Z m_Te_hasName _ _ _ 29 [_, _, _, _] [] _
      refine ab_go ok_Te_hasName 1 rfl ?_
      show ab_Z m_Te_hasName _ _ _ 30 [_, _, _, _] [_] _
      have fin : Po (some (.int 0)) (HA fm X s t) := by
        rw [← hPo, hda.mp g1]
        exact ⟨rfl, rfl⟩
      exact ab_rZ ok_Te_hasName rfl (by first | decide | exact bB_01 _ | exact bI_01 _) (fin)
    · intro g1
      show ab_Z m_Te_hasName _ _ _ 27 [_, _, _, _] [] _
      refine ab_go ok_Te_hasName 2 rfl ?_
      show ab_Z m_Te_hasName _ _ _ 30 [_, _, _, _] [_] _
      have fin : Po (some (.int 1)) (HA fm X s t) := by
        rw [← hPo, show hasX x w = true from by
          cases hx : hasX x w
          · exact absurd (hda.mpr hx) g1
          · rfl]
        exact ⟨rfl, rfl⟩
      exact ab_rZ ok_Te_hasName rfl (by first | decide | exact bB_01 _ | exact bI_01 _) (fin)
  refine ab_T_of (M := m_Te_hasName) rfl rfl (Nat.le_of_ble_eq_true rfl) ?_
  show ab_Z m_Te_hasName _ _ _ 0 [_, _, _, _] [] _
  refine ab_go ok_Te_hasName 2 rfl ?_
  show ab_Z m_Te_hasName _ _ _ 2 [_, _, _, _] [] _
  refine lp_dn (xNc x) (fun k => (∀ j, j < k → xCn x j ≠ w) → ab_Z m_Te_hasName (d + 1) (0, 0) Po 2 [some (.ref 57), some (.long (lN (cdL 32 w))), none, some (.int (nI k))] [] (HA fm X s t)) ?_ ?_ (fun j hj => absurd hj (by omega))
  · intro hn
    refine ab_go ok_Te_hasName 3 rfl ?_
    show ab_Z m_Te_hasName _ _ _ 5 [_, _, _, _] [_, _] _
    rw [h1]
    refine ab_br ok_Te_hasName rfl rfl ?_ ?_
    · intro g1
      show ab_Z m_Te_hasName _ _ _ 22 [_, _, _, _] [] _
      exact deeds hn _
    · intro g1
      show ab_Z m_Te_hasName _ _ _ 6 [_, _, _, _] [] _
      exact absurd (lp_out _) g1
  · intro k hk ih hn
    obtain ⟨q1, q2, q3, q4⟩ := h3 k hk
    have hce := cd_eq (B := 32) (by decide) (by decide) q3.1 q3.2 hw.1 hw.2
    have hk6 : k < 5 := Nat.lt_of_lt_of_le hk h2
    refine ab_go ok_Te_hasName 3 rfl ?_
    show ab_Z m_Te_hasName _ _ _ 5 [_, _, _, _] [_, _] _
    rw [h1]
    refine ab_br ok_Te_hasName rfl rfl ?_ ?_
    · intro g1
      show ab_Z m_Te_hasName _ _ _ 22 [_, _, _, _] [] _
      exact absurd g1 (lp_in (Nat.lt_of_le_of_lt h2 (by decide)) hk)
    · intro g1
      show ab_Z m_Te_hasName _ _ _ 6 [_, _, _, _] [] _
      refine ab_go ok_Te_hasName 4 rfl ?_
      show ab_Z m_Te_hasName _ _ _ 10 [_, _, _, _] [_, _] _
      refine ab_br ok_Te_hasName rfl rfl ?_ ?_
      · intro g2
        show ab_Z m_Te_hasName _ _ _ 22 [_, _, _, _] [] _
        exact absurd g2 (lp_in (N := 5) (by decide) hk6)
      · intro g2
        show ab_Z m_Te_hasName _ _ _ 11 [_, _, _, _] [] _
        refine ab_go ok_Te_hasName 3 rfl ?_
        show ab_Z m_Te_hasName _ _ _ 14 [_, _, _, _] [_, _] _
        refine ab_la ok_Te_hasName rfl rfl (k := k) (by first | rfl | (simp only [LL1, LL2, LL3, LL4, LL5, LL6, LL7, LL8, LL10, LL15, LL18, LL20, LL21, LL22, LL23, LL24, LL32, LL39, LL40, LL130, LL420, pk_mul, nI_add]; done) | (simp only [LL1, LL2, LL3, LL4, LL5, LL6, LL7, LL8, LL10, LL15, LL18, LL20, LL21, LL22, LL23, LL24, LL32, LL39, LL40, LL130, LL420, pk_mul, nI_add]; congr 1; omega)) (by omega) (Nat.le_of_ble_eq_true rfl) ?_
        show ab_Z m_Te_hasName _ _ _ 15 [_, _, _, _] [_] _
        rw [q2]
        refine ab_go ok_Te_hasName 2 rfl ?_
        show ab_Z m_Te_hasName _ _ _ 17 [_, _, _, _] [_] _
        refine ab_br ok_Te_hasName rfl rfl ?_ ?_
        · intro g3
          show ab_Z m_Te_hasName _ _ _ 18 [_, _, _, _] [] _
          have g3' := hce.mp (lcmp_eq.mp g3)
          refine ab_go ok_Te_hasName 1 rfl ?_
          show ab_Z m_Te_hasName _ _ _ 19 [_, _, _, _] [_] _
          have fin : Po (some (.int 1)) (HA fm X s t) := by
            rw [← hPo]
            unfold hasX
            rw [anyN_t.mpr ⟨k, hk, decide_eq_true g3'⟩, Bool.true_or]
            exact ⟨rfl, rfl⟩
          exact ab_rZ ok_Te_hasName rfl (by first | decide | exact bB_01 _ | exact bI_01 _) (fin)
        · intro g3
          show ab_Z m_Te_hasName _ _ _ 20 [_, _, _, _] [] _
          have g3' : xCn x k ≠ w := fun z => g3 (lcmp_eq.mpr (hce.mpr z))
          have ih2 := ih (fun j hj => by
            by_cases hjk : j = k
            · rw [hjk]; exact g3'
            · exact hn j (by omega))
          rw [nI_succ] at ih2
          refine ab_go ok_Te_hasName 2 rfl ?_
          show ab_Z m_Te_hasName _ _ _ 2 [_, _, _, _] [] _
          exact ih2
theorem t_Re_acceptNewName (hT : TC s t K P v nm) {R : Rs Nat} (hR : Rd s K R) {l : Nat × Nat} (hl : Lt s l) {x : Tx} (hC : DcB s t x.1) (hD : DdB s t x.2.1) : ab_T g_Re_acceptNewName (d + 2) (0, 0) [.ref 8, .ref 57] (HA fm X s t) (fun r h => ∃ y s', r = some (.long y) ∧ h = HA fm X s' t ∧ KL s s' ∧ Rd s' K (bnd R (eatT K 2)) ∧ (∃ l', Lt s' l') ∧ ∀ n n1, R = .inl n → eatT K 2 n = .inl n1 → y = lN (cdL 32 (nm n)) ∧ nmO (nm n) ∧ Lt s' (if hasX x (nm n) = true then ltU l 3 n else l)) := by
  obtain ⟨p1, p2⟩ := hR.pos
  refine ab_T_of (M := m_Re_acceptNewName) rfl rfl (Nat.le_of_ble_eq_true rfl) ?_
  show ab_Z m_Re_acceptNewName _ _ _ 0 [_, _, _, _, _] [] _
  refine ab_go ok_Re_acceptNewName 6 rfl ?_
  show ab_Z m_Re_acceptNewName _ _ _ 6 [_, _, _, _, _] [_, _] _
  rw [p1]
  refine ab_cl ok_Re_acceptNewName rfl [_, _] [] rfl ⟨_, _, rfl, rfl, Or.inl ⟨_, _, rfl, rfl⟩⟩ (Nat.le_of_ble_eq_true rfl) (t_To_valueAt (d + 1) fm X s t p2) ?_
  rintro _ _ ⟨rfl, rfl⟩
  show ab_Z m_Re_acceptNewName _ _ _ 7 [_, _, _, _, _] [_] _
  refine ab_go ok_Re_acceptNewName 3 rfl ?_
  show ab_Z m_Re_acceptNewName _ _ _ 10 [_, _, _, _, _] [_, _] _
  refine ab_cl ok_Re_acceptNewName rfl [_, _] [] rfl ⟨_, _, rfl, rfl, Or.inl ⟨_, _, rfl, rfl⟩⟩ (Nat.le_of_ble_eq_true rfl) (t_Re_accept (d + 1) fm X s t hT hR (w := 2) (by decide) (by decide) _ rfl) ?_
  rintro _ _ ⟨rfl, s1, rfl, k1, hR1⟩
  show ab_Z m_Re_acceptNewName _ _ _ 11 [_, _, _, _, _] [_] _
  refine ab_br ok_Re_acceptNewName rfl rfl ?_ ?_
  · intro h1
    show ab_Z m_Re_acceptNewName _ _ _ 20 [_, _, _, _, _] [] _
    have h1' := bB_0.mp h1
    refine ab_go ok_Re_acceptNewName 1 rfl ?_
    show ab_Z m_Re_acceptNewName _ _ _ 21 [_, _, _, _, _] [_] _
    exact ab_rL ok_Re_acceptNewName rfl (⟨_, s1, rfl, rfl, k1.l, hR1, ⟨l, k1.lt hl⟩, fun n n1 e1 e2 => by rw [e1, bnd_l, e2] at h1'; exact absurd h1' (fun z => isL_l z)⟩)
  · intro h1
    show ab_Z m_Re_acceptNewName _ _ _ 12 [_, _, _, _, _] [] _
    have h1' := bB_n0 h1
    cases R with
    | inr e => exact absurd h1' (fun z => isL_r z)
    | inl n =>
      rw [bnd_l] at hR1 h1' ⊢
      rw [show posR (.inl n) = n from rfl] at p2 ⊢
      have hK2 : K n = 2 := by
        unfold eatT at h1'
        by_cases hk : K n = 2
        · exact hk
        · rw [if_neg hk] at h1'; exact absurd h1' (fun z => isL_r z)
      have hw := hT.2.2.2 n hK2
      have h6 : t 6 n = lN (cdL 32 (nm n)) := (hT.1 n hR.2.2.2).2.2.2 hK2
      rw [h6]
      have hC1 : DcB s1 t x.1 := hC.of (k1 57 11 (by omega)) (funext fun k => k1 59 k (by omega)) (funext fun k => k1 60 k (by omega)) rfl
      have hD1 : DdB s1 t x.2.1 := hD.of (k1 57 12 (by omega)) (funext fun k => k1 62 k (by omega)) (funext fun k => k1 63 k (by omega)) rfl
      refine ab_go ok_Re_acceptNewName 2 rfl ?_
      show ab_Z m_Re_acceptNewName _ _ _ 14 [_, _, _, _, _] [_, _] _
      refine ab_cl ok_Re_acceptNewName rfl [_, _] [] rfl ⟨_, _, rfl, rfl, Or.inl ⟨_, _, rfl, rfl⟩⟩ (Nat.le_of_ble_eq_true rfl) (t_Te_hasName d fm X s1 t hC1 hD1 hw) ?_
      rintro _ _ ⟨rfl, rfl⟩
      show ab_Z m_Re_acceptNewName _ _ _ 15 [_, _, _, _, _] [_] _
      refine ab_br ok_Re_acceptNewName rfl rfl ?_ ?_
      · intro h2
        show ab_Z m_Re_acceptNewName _ _ _ 20 [_, _, _, _, _] [] _
        have h2' := bB_0.mp h2
        refine ab_go ok_Re_acceptNewName 1 rfl ?_
        show ab_Z m_Re_acceptNewName _ _ _ 21 [_, _, _, _, _] [_] _
        exact ab_rL ok_Re_acceptNewName rfl (⟨_, s1, rfl, rfl, k1.l, hR1, ⟨l, k1.lt hl⟩, fun n' n1 e1 e2 => by cases e1; exact ⟨rfl, hw, by rw [h2', if_neg (by decide)]; exact k1.lt hl⟩⟩)
      · intro h2
        show ab_Z m_Re_acceptNewName _ _ _ 16 [_, _, _, _, _] [] _
        have h2' := bB_n0 h2
        refine ab_go ok_Re_acceptNewName 3 rfl ?_
        show ab_Z m_Re_acceptNewName _ _ _ 19 [_, _, _, _, _] [_, _, _] _
        refine ab_cl ok_Re_acceptNewName rfl [_, _, _] [] rfl ⟨_, _, rfl, rfl, Or.inl ⟨_, _, rfl, rfl⟩⟩ (Nat.le_of_ble_eq_true rfl) (t_Re_failLate (d + 1) fm X s1 t (k1.lt hl) (c := 3) (by decide) (by decide) p2 _ _ rfl rfl) ?_
        rintro _ _ ⟨rfl, s2, rfl, k2, hl2⟩
        show ab_Z m_Re_acceptNewName _ _ _ 20 [_, _, _, _, _] [] _
        refine ab_go ok_Re_acceptNewName 1 rfl ?_
        show ab_Z m_Re_acceptNewName _ _ _ 21 [_, _, _, _, _] [_] _
        have hR2 : Rd s2 K (eatT K 2 n) := hR1.of (k2 8 1 (by omega)) (k2 8 2 (by omega)) (k2 8 3 (by omega))
        exact ab_rL ok_Re_acceptNewName rfl (⟨_, s2, rfl, rfl, k1.l.tr (fun c k hc => k2 c k (fun z => hc z.1)), hR2, ⟨_, hl2⟩, fun n' n1 e1 e2 => by cases e1; exact ⟨rfl, hw, by rw [if_pos h2']; exact hl2⟩⟩)
theorem t_Re_acceptDeed (hT : TC s t K P v nm) {R : Rs Nat} (hR : Rd s K R) {l : Nat × Nat} (hl : Lt s l) {x : Tx} (hD : DdB s t x.2.1) : ab_T g_Re_acceptDeed (d + 2) (0, 0) [.ref 8, .ref 57] (HA fm X s t) (fun r h => ∃ y s', r = some (.int y) ∧ h = HA fm X s' t ∧ KL s s' ∧ Rd s' K (mpT Prod.fst (bnd R fun n => dnT K nm x n l)) ∧ (∃ l', Lt s' l') ∧ ((∃ e, bnd R (eatT K 2) = .inr e) → y = -1) ∧ ∀ a, (bnd R fun n => dnT K nm x n l) = .inl a → y = a.2.1 ∧ Lt s' a.2.2) := by
  obtain ⟨p1, p2⟩ := hR.pos
  have hmp : mpT Prod.fst (bnd R fun n => dnT K nm x n l) = bnd R (eatT K 2) := by
    cases R with
    | inr e => rfl
    | inl n =>
      show mpT Prod.fst (dnT K nm x n l) = eatT K 2 n
      unfold dnT
      cases eatT K 2 n <;> rfl
  rw [hmp]
  refine ab_T_of (M := m_Re_acceptDeed) rfl rfl (Nat.le_of_ble_eq_true rfl) ?_
  show ab_Z m_Re_acceptDeed _ _ _ 0 [_, _, _, _] [] _
  refine ab_go ok_Re_acceptDeed 5 rfl ?_
  show ab_Z m_Re_acceptDeed _ _ _ 5 [_, _, _, _] [_, _] _
  rw [p1]
  refine ab_cl ok_Re_acceptDeed rfl [_, _] [] rfl ⟨_, _, rfl, rfl, Or.inl ⟨_, _, rfl, rfl⟩⟩ (Nat.le_of_ble_eq_true rfl) (t_Re_accept (d + 1) fm X s t hT hR (w := 2) (by decide) (by decide) _ rfl) ?_
  rintro _ _ ⟨rfl, s1, rfl, k1, hR1⟩
  show ab_Z m_Re_acceptDeed _ _ _ 6 [_, _, _, _] [_] _
  refine ab_br ok_Re_acceptDeed rfl rfl ?_ ?_
  · intro h1
    show ab_Z m_Re_acceptDeed _ _ _ 7 [_, _, _, _] [] _
    have h1' := bB_0.mp h1
    refine ab_go ok_Re_acceptDeed 1 rfl ?_
    show ab_Z m_Re_acceptDeed _ _ _ 8 [_, _, _, _] [_] _
    have hno : ∀ a, (bnd R fun n => dnT K nm x n l) ≠ .inl a := fun a ha => by
      obtain ⟨n, e1, e2⟩ := bnd_in ha
      obtain ⟨n1, e3, e4⟩ := bnd_in e2
      rw [e1, bnd_l, e3] at h1'
      exact isL_l h1'
    exact ab_rI ok_Re_acceptDeed rfl (⟨-1, s1, rfl, rfl, k1.l, hR1, ⟨l, k1.lt hl⟩, fun _ => rfl, fun a ha => absurd ha (hno a)⟩)
  · intro h1
    show ab_Z m_Re_acceptDeed _ _ _ 9 [_, _, _, _] [] _
    have h1' := bB_n0 h1
    cases R with
    | inr e => exact absurd h1' (fun z => isL_r z)
    | inl n =>
      rw [bnd_l] at hR1 h1' ⊢
      rw [show posR (.inl n) = n from rfl] at p2 ⊢
      have hK2 : K n = 2 := by
        unfold eatT at h1'
        by_cases hk : K n = 2
        · exact hk
        · rw [if_neg hk] at h1'; exact absurd h1' (fun z => isL_r z)
      have hw := hT.2.2.2 n hK2
      have h6 : t 6 n = lN (cdL 32 (nm n)) := (hT.1 n hR.2.2.2).2.2.2 hK2
      have hD1 : DdB s1 t x.2.1 := hD.of (k1 57 12 (by omega)) (funext fun k => k1 62 k (by omega)) (funext fun k => k1 63 k (by omega)) rfl
      obtain ⟨n1, hn1⟩ : ∃ n1, eatT K 2 n = .inl n1 := by
        cases hx : eatT K 2 n with
        | inl n1 => exact ⟨n1, rfl⟩
        | inr e => rw [hx] at h1'; exact absurd h1' (fun z => isL_r z)
      have hdn : (bnd (.inl n : Rs Nat) fun n => dnT K nm x n l) = .inl (n1, deedX x (nm n), if deedX x (nm n) = -1 then ltU l 4 n else l) := by
        rw [bnd_l]
        unfold dnT
        rw [hn1]
        rfl
      have hne : (∃ e, bnd (.inl n : Rs Nat) (eatT K 2) = .inr e) → False := fun ⟨e, he⟩ => by
        rw [bnd_l, hn1] at he; cases he
      rw [hdn]
      refine ab_go ok_Re_acceptDeed 4 rfl ?_
      show ab_Z m_Re_acceptDeed _ _ _ 13 [_, _, _, _] [_, _, _] _
      refine ab_cl ok_Re_acceptDeed rfl [_, _] [_] rfl ⟨_, _, rfl, rfl, Or.inl ⟨_, _, rfl, rfl⟩⟩ (Nat.le_of_ble_eq_true rfl) (t_To_valueAt (d + 1) fm X s1 t p2) ?_
      rintro _ _ ⟨rfl, rfl⟩
      show ab_Z m_Re_acceptDeed _ _ _ 14 [_, _, _, _] [_, _] _
      rw [h6]
      refine ab_cl ok_Re_acceptDeed rfl [_, _] [] rfl ⟨_, _, rfl, rfl, Or.inl ⟨_, _, rfl, rfl⟩⟩ (Nat.le_of_ble_eq_true rfl) (t_Te_deedNamed (d + 1) fm X s1 t hD1 hw) ?_
      rintro _ _ ⟨rfl, rfl⟩
      show ab_Z m_Re_acceptDeed _ _ _ 15 [_, _, _, _] [_] _
      refine ab_go ok_Re_acceptDeed 3 rfl ?_
      show ab_Z m_Re_acceptDeed _ _ _ 18 [_, _, _, _] [_, _] _
      refine ab_br ok_Re_acceptDeed rfl rfl ?_ ?_
      · intro h2
        show ab_Z m_Re_acceptDeed _ _ _ 19 [_, _, _, _] [] _
        refine ab_go ok_Re_acceptDeed 3 rfl ?_
        show ab_Z m_Re_acceptDeed _ _ _ 22 [_, _, _, _] [_, _, _] _
        refine ab_cl ok_Re_acceptDeed rfl [_, _, _] [] rfl ⟨_, _, rfl, rfl, Or.inl ⟨_, _, rfl, rfl⟩⟩ (Nat.le_of_ble_eq_true rfl) (t_Re_failLate (d + 1) fm X s1 t (k1.lt hl) (c := 4) (by decide) (by decide) p2 _ _ rfl rfl) ?_
        rintro _ _ ⟨rfl, s2, rfl, k2, hl2⟩
        show ab_Z m_Re_acceptDeed _ _ _ 23 [_, _, _, _] [] _
        refine ab_go ok_Re_acceptDeed 1 rfl ?_
        show ab_Z m_Re_acceptDeed _ _ _ 24 [_, _, _, _] [_] _
        have hR2 : Rd s2 K (eatT K 2 n) := hR1.of (k2 8 1 (by omega)) (k2 8 2 (by omega)) (k2 8 3 (by omega))
        exact ab_rI ok_Re_acceptDeed rfl (⟨_, s2, rfl, rfl, k1.l.tr (fun c k hc => k2 c k (fun z => hc z.1)), hR2, ⟨_, hl2⟩, fun z => (hne z).elim, fun a ha => by cases ha; exact ⟨rfl, by rw [if_pos h2]; exact hl2⟩⟩)
      · intro h2
        show ab_Z m_Re_acceptDeed _ _ _ 23 [_, _, _, _] [] _
        refine ab_go ok_Re_acceptDeed 1 rfl ?_
        show ab_Z m_Re_acceptDeed _ _ _ 24 [_, _, _, _] [_] _
        exact ab_rI ok_Re_acceptDeed rfl (⟨_, s1, rfl, rfl, k1.l, hR1, ⟨l, k1.lt hl⟩, fun z => (hne z).elim, fun a ha => by cases ha; exact ⟨rfl, by rw [if_neg h2]; exact k1.lt hl⟩⟩)
end

