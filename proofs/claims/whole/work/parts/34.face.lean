/-! the face of the class, first part -/
theorem ab_tgt_d {lo : Int} {ts : List Nat} {df : Nat} {x : Int32} (h : x.toInt < lo ∨ lo + (ts.length : Int) ≤ x.toInt) : ab_tgt lo ts df x = df := if_pos h
theorem bI_n0 {p : Prop} [Decidable p] (h : ¬ bI p = 0) : p := by
  unfold bI at h
  split at h
  · assumption
  · exact absurd rfl h
abbrev inR (n : Nat) (x : Int32) : Prop := 0 ≤ x.toInt ∧ x.toInt < (n : Int)
theorem inR_nat {n : Nat} {x : Int32} (h : inR n x) : ∃ k, k < n ∧ x = nI k := ⟨x.toNatClampNeg, by have := (ab_nn h.1).2; omega, i_nat h.1⟩
theorem inR_nI {n k : Nat} (h : k < n) (hn : n < 2147483648) : inR n (nI k) := by
  unfold inR
  rw [nI_t (by omega)]
  omega
theorem sw_c (n : Nat) (x : Int32) : (∃ k, k < n ∧ x = nI k) ∨ (x.toInt < 0 ∨ (n : Int) ≤ x.toInt) := by
  by_cases h : inR n x
  · exact Or.inl (inR_nat h)
  · exact Or.inr (by omega)
theorem sw_9 (x : Int32) : (x = 0 ∨ x = 1 ∨ x = 2 ∨ x = 3 ∨ x = 4 ∨ x = 5 ∨ x = 6 ∨ x = 7 ∨ x = 8) ∨ (x.toInt < 0 ∨ (9 : Int) ≤ x.toInt) := by
  rcases sw_c 9 x with ⟨k, hk, rfl⟩ | h
  · refine Or.inl ?_
    rcases (by omega : k = 0 ∨ k = 1 ∨ k = 2 ∨ k = 3 ∨ k = 4 ∨ k = 5 ∨ k = 6 ∨ k = 7 ∨ k = 8) with rfl | rfl | rfl | rfl | rfl | rfl | rfl | rfl | rfl <;> decide
  · exact Or.inr h
theorem sw_3 (x : Int32) : (x = 0 ∨ x = 1 ∨ x = 2) ∨ (x.toInt < 0 ∨ (3 : Int) ≤ x.toInt) := by
  rcases sw_c 3 x with ⟨k, hk, rfl⟩ | h
  · refine Or.inl ?_
    rcases (by omega : k = 0 ∨ k = 1 ∨ k = 2) with rfl | rfl | rfl <;> decide
  · exact Or.inr h
/-- the class's counts, laws, and who is who -/
abbrev CI (s : Nat → Nat → Int32) (nc nd nt : Nat) (PT PG PB PF : List (List Ins)) : Prop := CS s nc nd nt PT PG PB PF ∧ SI s nc nd nt
def clkA (s : Nat → Nat → Int32) (nd c : Nat) (w : Int32) : Int32 := if w = 0 then s 11 (3 * c) else if w = 1 then s 11 (3 * c + 1) else if w = 2 then s 11 (3 * c + 2) else if w = 3 then s 17 (3 * c) else if w = 4 then s 17 (3 * c + 1) else if w = 5 then s 17 (3 * c + 2) else if w = 6 then s 16 c + s 11 39 else if w = 7 then nsV s nd c else if w = 8 then nI (bitsN (fun k => decide (s 11 (33 + k) = nI c)) nd) else -1
def deedA (s : Nat → Nat → Int32) (PB PF : List (List Ins)) (nd e : Nat) (w : Int32) : Int32 := if w = 0 then s 20 (3 * e) else if w = 1 then s 20 (3 * e + 1) else if w = 2 then s 20 (3 * e + 2) else if w = 3 then s 11 (15 + 3 * e) else if w = 4 then s 11 (15 + 3 * e + 1) else if w = 5 then s 11 (15 + 3 * e + 2) else if w = 6 then s 19 e else if w = 7 then s 11 (33 + e) else if w = 8 then bdV s PB PF nd e 0 else -1
def trtA (s : Nat → Nat → Int32) (k : Nat) (w : Int32) : Int32 := if w = 0 then s 21 (2 * k) else if w = 1 then s 21 (2 * k + 1) else if w = 2 then bB (heldB s k) else -1
theorem out_n {x : Int32} {n : Nat} (h : x.toInt < 0 ∨ (n : Int) ≤ x.toInt) : ∀ y : Int32, 0 ≤ y.toInt → y.toInt < (n : Int) → ¬ x = y := fun y h1 h2 e => by rw [e] at h; omega
section
variable (d : Nat) (fm : Value) (X : Nat × (Nat → Int32)) (s : Nat → Nat → Int32) (t : Nat → Nat → Int64)
variable {nc nd nt : Nat} {PT PG PB PF : List (List Ins)}
theorem t_SF_place : ab_T g_SF_place d (0, 0) [.ref 0] (HA fm X s t) (PI (s 0 9) (HA fm X s t)) := by
  refine ab_T_of (M := m_SF_place) rfl rfl (Nat.le_of_ble_eq_true rfl) ?_
  show ab_Z m_SF_place _ _ _ 0 [_] [] _
  refine ab_go ok_SF_place 2 rfl ?_
  show ab_Z m_SF_place _ _ _ 2 [_] [_] _
  exact ab_rI ok_SF_place rfl (⟨rfl, rfl⟩)
theorem t_Ha_isClerk' (hC : CS s nc nd nt PT PG PB PF) (x : Int32) : ab_T g_Ha_isClerk d (0, 0) [.ref 9, .int x] (HA fm X s t) (PI (bI (inR nc x)) (HA fm X s t)) := by
  have h := t_Ha_isClerk d fm X s t x
  rw [hC.1, nI_t (by have := hC.2.1; omega)] at h
  exact h
theorem t_Ha_isDeed' (hC : CS s nc nd nt PT PG PB PF) (x : Int32) : ab_T g_Ha_isDeed d (0, 0) [.ref 9, .int x] (HA fm X s t) (PI (bI (inR nd x)) (HA fm X s t)) := by
  have h := t_Ha_isDeed d fm X s t x
  rw [hC.2.2.1, nI_t (by have := hC.2.2.2.1; omega)] at h
  exact h
theorem t_SF_clerk (hC : CI s nc nd nt PT PG PB PF) (x w : Int32) : ab_T g_SF_clerk (d + 4) (0, 0) [.ref 0, .int x, .int w] (HA fm X s t) (P2 (if inR nc x then clkA s nd x.toNatClampNeg w else -1) fm X s t) := by
  have h5 : nc ≤ 5 := hC.1.2.1
  refine ab_T_of (M := m_SF_clerk) rfl rfl (Nat.le_of_ble_eq_true rfl) ?_
  show ab_Z m_SF_clerk _ _ _ 0 [_, _, _] [] _
  refine ab_go ok_SF_clerk 3 rfl ?_
  show ab_Z m_SF_clerk _ _ _ 3 [_, _, _] [_, _] _
  refine ab_cl ok_SF_clerk rfl [_, _] [] rfl ⟨_, _, rfl, rfl, Or.inl ⟨_, _, rfl, rfl⟩⟩ (Nat.le_of_ble_eq_true rfl) (t_Ha_isClerk' (d + 3) fm X s t hC.1 x) ?_
  rintro _ _ ⟨rfl, rfl⟩
  show ab_Z m_SF_clerk _ _ _ 4 [_, _, _] [_] _
  refine ab_br ok_SF_clerk rfl rfl ?_ ?_
  · intro h1
    show ab_Z m_SF_clerk _ _ _ 5 [_, _, _] [] _
    refine ab_go ok_SF_clerk 1 rfl ?_
    show ab_Z m_SF_clerk _ _ _ 6 [_, _, _] [_] _
    exact ab_rI ok_SF_clerk rfl (⟨by rw [if_neg (bI_0.mp h1)], s, rfl, Kp2.rf s⟩)
  · intro h1
    show ab_Z m_SF_clerk _ _ _ 7 [_, _, _] [] _
    have h2 := bI_n0 h1
    rw [if_pos h2]
    clear h1
    obtain ⟨c, hc, rfl⟩ := inR_nat h2
    rw [nI_c (by omega)]
    refine ab_go ok_SF_clerk 1 rfl ?_
    show ab_Z m_SF_clerk _ _ _ 8 [_, _, _] [_] _
    rcases sw_9 w with (rfl | rfl | rfl | rfl | rfl | rfl | rfl | rfl | rfl) | h
    · refine ab_go ok_SF_clerk 1 rfl ?_
      rw [show ab_tgt 0 [9, 9, 9, 16, 16, 16, 25, 34, 39] 44 0 = 9 from by decide]
      show ab_Z m_SF_clerk _ _ _ 9 [_, _, _] [] _
      refine ab_go ok_SF_clerk 5 rfl ?_
      show ab_Z m_SF_clerk _ _ _ 14 [_, _, _] [_, _, _] _
      refine ab_cl ok_SF_clerk rfl [_, _, _] [] rfl ⟨_, _, rfl, rfl, Or.inl ⟨_, _, rfl, rfl⟩⟩ (Nat.le_of_ble_eq_true rfl) (t_Sc_levelOf (d + 2) fm X s t (show c < 5 by omega) (f := 0) (by decide)) ?_
      rintro _ _ ⟨rfl, rfl⟩
      show ab_Z m_SF_clerk _ _ _ 15 [_, _, _] [_] _
      exact ab_rI ok_SF_clerk rfl (⟨rfl, s, rfl, Kp2.rf s⟩)
    · refine ab_go ok_SF_clerk 1 rfl ?_
      rw [show ab_tgt 0 [9, 9, 9, 16, 16, 16, 25, 34, 39] 44 1 = 9 from by decide]
      show ab_Z m_SF_clerk _ _ _ 9 [_, _, _] [] _
      refine ab_go ok_SF_clerk 5 rfl ?_
      show ab_Z m_SF_clerk _ _ _ 14 [_, _, _] [_, _, _] _
      refine ab_cl ok_SF_clerk rfl [_, _, _] [] rfl ⟨_, _, rfl, rfl, Or.inl ⟨_, _, rfl, rfl⟩⟩ (Nat.le_of_ble_eq_true rfl) (t_Sc_levelOf (d + 2) fm X s t (show c < 5 by omega) (f := 1) (by decide)) ?_
      rintro _ _ ⟨rfl, rfl⟩
      show ab_Z m_SF_clerk _ _ _ 15 [_, _, _] [_] _
      exact ab_rI ok_SF_clerk rfl (⟨rfl, s, rfl, Kp2.rf s⟩)
    · refine ab_go ok_SF_clerk 1 rfl ?_
      rw [show ab_tgt 0 [9, 9, 9, 16, 16, 16, 25, 34, 39] 44 2 = 9 from by decide]
      show ab_Z m_SF_clerk _ _ _ 9 [_, _, _] [] _
      refine ab_go ok_SF_clerk 5 rfl ?_
      show ab_Z m_SF_clerk _ _ _ 14 [_, _, _] [_, _, _] _
      refine ab_cl ok_SF_clerk rfl [_, _, _] [] rfl ⟨_, _, rfl, rfl, Or.inl ⟨_, _, rfl, rfl⟩⟩ (Nat.le_of_ble_eq_true rfl) (t_Sc_levelOf (d + 2) fm X s t (show c < 5 by omega) (f := 2) (by decide)) ?_
      rintro _ _ ⟨rfl, rfl⟩
      show ab_Z m_SF_clerk _ _ _ 15 [_, _, _] [_] _
      exact ab_rI ok_SF_clerk rfl (⟨rfl, s, rfl, Kp2.rf s⟩)
    · refine ab_go ok_SF_clerk 1 rfl ?_
      rw [show ab_tgt 0 [9, 9, 9, 16, 16, 16, 25, 34, 39] 44 3 = 16 from by decide]
      show ab_Z m_SF_clerk _ _ _ 16 [_, _, _] [] _
      refine ab_go ok_SF_clerk 7 rfl ?_
      show ab_Z m_SF_clerk _ _ _ 23 [_, _, _] [_, _, _] _
      refine ab_cl ok_SF_clerk rfl [_, _, _] [] rfl ⟨_, _, rfl, rfl, Or.inl ⟨_, _, rfl, rfl⟩⟩ (Nat.le_of_ble_eq_true rfl) (t_Te_firstOf (d + 2) fm X s t (show c < 5 by omega) (f := 0) (by decide)) ?_
      rintro _ _ ⟨rfl, rfl⟩
      show ab_Z m_SF_clerk _ _ _ 24 [_, _, _] [_] _
      exact ab_rI ok_SF_clerk rfl (⟨rfl, s, rfl, Kp2.rf s⟩)
    · refine ab_go ok_SF_clerk 1 rfl ?_
      rw [show ab_tgt 0 [9, 9, 9, 16, 16, 16, 25, 34, 39] 44 4 = 16 from by decide]
      show ab_Z m_SF_clerk _ _ _ 16 [_, _, _] [] _
      refine ab_go ok_SF_clerk 7 rfl ?_
      show ab_Z m_SF_clerk _ _ _ 23 [_, _, _] [_, _, _] _
      refine ab_cl ok_SF_clerk rfl [_, _, _] [] rfl ⟨_, _, rfl, rfl, Or.inl ⟨_, _, rfl, rfl⟩⟩ (Nat.le_of_ble_eq_true rfl) (t_Te_firstOf (d + 2) fm X s t (show c < 5 by omega) (f := 1) (by decide)) ?_
      rintro _ _ ⟨rfl, rfl⟩
      show ab_Z m_SF_clerk _ _ _ 24 [_, _, _] [_] _
      exact ab_rI ok_SF_clerk rfl (⟨rfl, s, rfl, Kp2.rf s⟩)
    · refine ab_go ok_SF_clerk 1 rfl ?_
      rw [show ab_tgt 0 [9, 9, 9, 16, 16, 16, 25, 34, 39] 44 5 = 16 from by decide]
      show ab_Z m_SF_clerk _ _ _ 16 [_, _, _] [] _
      refine ab_go ok_SF_clerk 7 rfl ?_
      show ab_Z m_SF_clerk _ _ _ 23 [_, _, _] [_, _, _] _
      refine ab_cl ok_SF_clerk rfl [_, _, _] [] rfl ⟨_, _, rfl, rfl, Or.inl ⟨_, _, rfl, rfl⟩⟩ (Nat.le_of_ble_eq_true rfl) (t_Te_firstOf (d + 2) fm X s t (show c < 5 by omega) (f := 2) (by decide)) ?_
      rintro _ _ ⟨rfl, rfl⟩
      show ab_Z m_SF_clerk _ _ _ 24 [_, _, _] [_] _
      exact ab_rI ok_SF_clerk rfl (⟨rfl, s, rfl, Kp2.rf s⟩)
    · refine ab_go ok_SF_clerk 1 rfl ?_
      rw [show ab_tgt 0 [9, 9, 9, 16, 16, 16, 25, 34, 39] 44 6 = 25 from by decide]
      show ab_Z m_SF_clerk _ _ _ 25 [_, _, _] [] _
      refine ab_go ok_SF_clerk 6 rfl ?_
      show ab_Z m_SF_clerk _ _ _ 31 [_, _, _] [_, _, _] _
      refine ab_cl ok_SF_clerk rfl [_] [_, _] rfl ⟨_, _, rfl, rfl, Or.inl ⟨_, _, rfl, rfl⟩⟩ (Nat.le_of_ble_eq_true rfl) (t_Sc_yearNow (d + 3) fm X s t) ?_
      rintro _ _ ⟨rfl, rfl⟩
      show ab_Z m_SF_clerk _ _ _ 32 [_, _, _] [_, _, _] _
      refine ab_cl ok_SF_clerk rfl [_, _, _] [] rfl ⟨_, _, rfl, rfl, Or.inl ⟨_, _, rfl, rfl⟩⟩ (Nat.le_of_ble_eq_true rfl) (t_Ha_ageIn (d + 2) fm X s t _ (show c < 5 by omega)) ?_
      rintro _ _ ⟨rfl, rfl⟩
      show ab_Z m_SF_clerk _ _ _ 33 [_, _, _] [_] _
      exact ab_rI ok_SF_clerk rfl (⟨rfl, s, rfl, Kp2.rf s⟩)
    · refine ab_go ok_SF_clerk 1 rfl ?_
      rw [show ab_tgt 0 [9, 9, 9, 16, 16, 16, 25, 34, 39] 44 7 = 34 from by decide]
      show ab_Z m_SF_clerk _ _ _ 34 [_, _, _] [] _
      refine ab_go ok_SF_clerk 3 rfl ?_
      show ab_Z m_SF_clerk _ _ _ 37 [_, _, _] [_, _] _
      refine ab_cl ok_SF_clerk rfl [_, _] [] rfl ⟨_, _, rfl, rfl, Or.inl ⟨_, _, rfl, rfl⟩⟩ (Nat.le_of_ble_eq_true rfl) (t_Ha_sealedBy (d + 1) fm X s t _ hC.1.2.2.1 hC.1.2.2.2.1) ?_
      rintro _ _ ⟨rfl, rfl⟩
      show ab_Z m_SF_clerk _ _ _ 38 [_, _, _] [_] _
      exact ab_rI ok_SF_clerk rfl (⟨rfl, s, rfl, Kp2.rf s⟩)
    · refine ab_go ok_SF_clerk 1 rfl ?_
      rw [show ab_tgt 0 [9, 9, 9, 16, 16, 16, 25, 34, 39] 44 8 = 39 from by decide]
      show ab_Z m_SF_clerk _ _ _ 39 [_, _, _] [] _
      refine ab_go ok_SF_clerk 3 rfl ?_
      show ab_Z m_SF_clerk _ _ _ 42 [_, _, _] [_, _] _
      refine ab_cl ok_SF_clerk rfl [_, _] [] rfl ⟨_, _, rfl, rfl, Or.inl ⟨_, _, rfl, rfl⟩⟩ (Nat.le_of_ble_eq_true rfl) (t_Ha_deedsOf (d + 1) fm X s t _ hC.1.2.2.1 hC.1.2.2.2.1) ?_
      rintro _ _ ⟨rfl, rfl⟩
      show ab_Z m_SF_clerk _ _ _ 43 [_, _, _] [_] _
      exact ab_rI ok_SF_clerk rfl (⟨rfl, s, rfl, Kp2.rf s⟩)
    · refine ab_go ok_SF_clerk 1 rfl ?_
      rw [ab_tgt_d (h)]
      show ab_Z m_SF_clerk _ _ _ 44 [_, _, _] [] _
      refine ab_go ok_SF_clerk 1 rfl ?_
      show ab_Z m_SF_clerk _ _ _ 45 [_, _, _] [_] _
      have ho := out_n (n := 9) h
      exact ab_rI ok_SF_clerk rfl (⟨by rw [clkA, if_neg (ho 0 (by decide) (by decide)), if_neg (ho 1 (by decide) (by decide)), if_neg (ho 2 (by decide) (by decide)), if_neg (ho 3 (by decide) (by decide)), if_neg (ho 4 (by decide) (by decide)), if_neg (ho 5 (by decide) (by decide)), if_neg (ho 6 (by decide) (by decide)), if_neg (ho 7 (by decide) (by decide)), if_neg (ho 8 (by decide) (by decide))], s, rfl, Kp2.rf s⟩)
theorem t_SF_deed (hC : CI s nc nd nt PT PG PB PF) (x w : Int32) : ab_T g_SF_deed (d + 6) (0, 0) [.ref 0, .int x, .int w] (HA fm X s t) (P2 (if inR nd x then deedA s PB PF nd x.toNatClampNeg w else -1) fm X s t) := by
  have h5 : nc ≤ 5 := hC.1.2.1
  have h6 : nd ≤ 6 := hC.1.2.2.2.1
  refine ab_T_of (M := m_SF_deed) rfl rfl (Nat.le_of_ble_eq_true rfl) ?_
  show ab_Z m_SF_deed _ _ _ 0 [_, _, _] [] _
  refine ab_go ok_SF_deed 3 rfl ?_
  show ab_Z m_SF_deed _ _ _ 3 [_, _, _] [_, _] _
  refine ab_cl ok_SF_deed rfl [_, _] [] rfl ⟨_, _, rfl, rfl, Or.inl ⟨_, _, rfl, rfl⟩⟩ (Nat.le_of_ble_eq_true rfl) (t_Ha_isDeed' (d + 5) fm X s t hC.1 x) ?_
  rintro _ _ ⟨rfl, rfl⟩
  show ab_Z m_SF_deed _ _ _ 4 [_, _, _] [_] _
  refine ab_br ok_SF_deed rfl rfl ?_ ?_
  · intro h1
    show ab_Z m_SF_deed _ _ _ 5 [_, _, _] [] _
    refine ab_go ok_SF_deed 1 rfl ?_
    show ab_Z m_SF_deed _ _ _ 6 [_, _, _] [_] _
    exact ab_rI ok_SF_deed rfl (⟨by rw [if_neg (bI_0.mp h1)], s, rfl, Kp2.rf s⟩)
  · intro h1
    show ab_Z m_SF_deed _ _ _ 7 [_, _, _] [] _
    have h2 := bI_n0 h1
    rw [if_pos h2]
    clear h1
    obtain ⟨e, he, rfl⟩ := inR_nat h2
    rw [nI_c (by omega)]
    refine ab_go ok_SF_deed 1 rfl ?_
    show ab_Z m_SF_deed _ _ _ 8 [_, _, _] [_] _
    rcases sw_9 w with (rfl | rfl | rfl | rfl | rfl | rfl | rfl | rfl | rfl) | h
    · refine ab_go ok_SF_deed 1 rfl ?_
      rw [show ab_tgt 0 [9, 9, 9, 16, 16, 16, 25, 31, 37] 43 0 = 9 from by decide]
      show ab_Z m_SF_deed _ _ _ 9 [_, _, _] [] _
      refine ab_go ok_SF_deed 5 rfl ?_
      show ab_Z m_SF_deed _ _ _ 14 [_, _, _] [_, _, _] _
      refine ab_cl ok_SF_deed rfl [_, _, _] [] rfl ⟨_, _, rfl, rfl, Or.inl ⟨_, _, rfl, rfl⟩⟩ (Nat.le_of_ble_eq_true rfl) (t_Te_needOf (d + 4) fm X s t (show e < 6 by omega) (f := 0) (by decide)) ?_
      rintro _ _ ⟨rfl, rfl⟩
      show ab_Z m_SF_deed _ _ _ 15 [_, _, _] [_] _
      exact ab_rI ok_SF_deed rfl (⟨rfl, s, rfl, Kp2.rf s⟩)
    · refine ab_go ok_SF_deed 1 rfl ?_
      rw [show ab_tgt 0 [9, 9, 9, 16, 16, 16, 25, 31, 37] 43 1 = 9 from by decide]
      show ab_Z m_SF_deed _ _ _ 9 [_, _, _] [] _
      refine ab_go ok_SF_deed 5 rfl ?_
      show ab_Z m_SF_deed _ _ _ 14 [_, _, _] [_, _, _] _
      refine ab_cl ok_SF_deed rfl [_, _, _] [] rfl ⟨_, _, rfl, rfl, Or.inl ⟨_, _, rfl, rfl⟩⟩ (Nat.le_of_ble_eq_true rfl) (t_Te_needOf (d + 4) fm X s t (show e < 6 by omega) (f := 1) (by decide)) ?_
      rintro _ _ ⟨rfl, rfl⟩
      show ab_Z m_SF_deed _ _ _ 15 [_, _, _] [_] _
      exact ab_rI ok_SF_deed rfl (⟨rfl, s, rfl, Kp2.rf s⟩)
    · refine ab_go ok_SF_deed 1 rfl ?_
      rw [show ab_tgt 0 [9, 9, 9, 16, 16, 16, 25, 31, 37] 43 2 = 9 from by decide]
      show ab_Z m_SF_deed _ _ _ 9 [_, _, _] [] _
      refine ab_go ok_SF_deed 5 rfl ?_
      show ab_Z m_SF_deed _ _ _ 14 [_, _, _] [_, _, _] _
      refine ab_cl ok_SF_deed rfl [_, _, _] [] rfl ⟨_, _, rfl, rfl, Or.inl ⟨_, _, rfl, rfl⟩⟩ (Nat.le_of_ble_eq_true rfl) (t_Te_needOf (d + 4) fm X s t (show e < 6 by omega) (f := 2) (by decide)) ?_
      rintro _ _ ⟨rfl, rfl⟩
      show ab_Z m_SF_deed _ _ _ 15 [_, _, _] [_] _
      exact ab_rI ok_SF_deed rfl (⟨rfl, s, rfl, Kp2.rf s⟩)
    · refine ab_go ok_SF_deed 1 rfl ?_
      rw [show ab_tgt 0 [9, 9, 9, 16, 16, 16, 25, 31, 37] 43 3 = 16 from by decide]
      show ab_Z m_SF_deed _ _ _ 16 [_, _, _] [] _
      refine ab_go ok_SF_deed 7 rfl ?_
      show ab_Z m_SF_deed _ _ _ 23 [_, _, _] [_, _, _] _
      refine ab_cl ok_SF_deed rfl [_, _, _] [] rfl ⟨_, _, rfl, rfl, Or.inl ⟨_, _, rfl, rfl⟩⟩ (Nat.le_of_ble_eq_true rfl) (t_Sc_printOf (d + 4) fm X s t (show e < 6 by omega) (f := 0) (by decide)) ?_
      rintro _ _ ⟨rfl, rfl⟩
      show ab_Z m_SF_deed _ _ _ 24 [_, _, _] [_] _
      exact ab_rI ok_SF_deed rfl (⟨rfl, s, rfl, Kp2.rf s⟩)
    · refine ab_go ok_SF_deed 1 rfl ?_
      rw [show ab_tgt 0 [9, 9, 9, 16, 16, 16, 25, 31, 37] 43 4 = 16 from by decide]
      show ab_Z m_SF_deed _ _ _ 16 [_, _, _] [] _
      refine ab_go ok_SF_deed 7 rfl ?_
      show ab_Z m_SF_deed _ _ _ 23 [_, _, _] [_, _, _] _
      refine ab_cl ok_SF_deed rfl [_, _, _] [] rfl ⟨_, _, rfl, rfl, Or.inl ⟨_, _, rfl, rfl⟩⟩ (Nat.le_of_ble_eq_true rfl) (t_Sc_printOf (d + 4) fm X s t (show e < 6 by omega) (f := 1) (by decide)) ?_
      rintro _ _ ⟨rfl, rfl⟩
      show ab_Z m_SF_deed _ _ _ 24 [_, _, _] [_] _
      exact ab_rI ok_SF_deed rfl (⟨rfl, s, rfl, Kp2.rf s⟩)
    · refine ab_go ok_SF_deed 1 rfl ?_
      rw [show ab_tgt 0 [9, 9, 9, 16, 16, 16, 25, 31, 37] 43 5 = 16 from by decide]
      show ab_Z m_SF_deed _ _ _ 16 [_, _, _] [] _
      refine ab_go ok_SF_deed 7 rfl ?_
      show ab_Z m_SF_deed _ _ _ 23 [_, _, _] [_, _, _] _
      refine ab_cl ok_SF_deed rfl [_, _, _] [] rfl ⟨_, _, rfl, rfl, Or.inl ⟨_, _, rfl, rfl⟩⟩ (Nat.le_of_ble_eq_true rfl) (t_Sc_printOf (d + 4) fm X s t (show e < 6 by omega) (f := 2) (by decide)) ?_
      rintro _ _ ⟨rfl, rfl⟩
      show ab_Z m_SF_deed _ _ _ 24 [_, _, _] [_] _
      exact ab_rI ok_SF_deed rfl (⟨rfl, s, rfl, Kp2.rf s⟩)
    · refine ab_go ok_SF_deed 1 rfl ?_
      rw [show ab_tgt 0 [9, 9, 9, 16, 16, 16, 25, 31, 37] 43 6 = 25 from by decide]
      show ab_Z m_SF_deed _ _ _ 25 [_, _, _] [] _
      refine ab_go ok_SF_deed 4 rfl ?_
      show ab_Z m_SF_deed _ _ _ 29 [_, _, _] [_, _] _
      refine ab_cl ok_SF_deed rfl [_, _] [] rfl ⟨_, _, rfl, rfl, Or.inl ⟨_, _, rfl, rfl⟩⟩ (Nat.le_of_ble_eq_true rfl) (t_Te_worthOf (d + 4) fm X s t (show e < 6 by omega)) ?_
      rintro _ _ ⟨rfl, rfl⟩
      show ab_Z m_SF_deed _ _ _ 30 [_, _, _] [_] _
      exact ab_rI ok_SF_deed rfl (⟨rfl, s, rfl, Kp2.rf s⟩)
    · refine ab_go ok_SF_deed 1 rfl ?_
      rw [show ab_tgt 0 [9, 9, 9, 16, 16, 16, 25, 31, 37] 43 7 = 31 from by decide]
      show ab_Z m_SF_deed _ _ _ 31 [_, _, _] [] _
      refine ab_go ok_SF_deed 4 rfl ?_
      show ab_Z m_SF_deed _ _ _ 35 [_, _, _] [_, _] _
      refine ab_cl ok_SF_deed rfl [_, _] [] rfl ⟨_, _, rfl, rfl, Or.inl ⟨_, _, rfl, rfl⟩⟩ (Nat.le_of_ble_eq_true rfl) (t_Sc_sealerOf (d + 5) fm X s t (show e < 6 by omega)) ?_
      rintro _ _ ⟨rfl, rfl⟩
      show ab_Z m_SF_deed _ _ _ 36 [_, _, _] [_] _
      exact ab_rI ok_SF_deed rfl (⟨rfl, s, rfl, Kp2.rf s⟩)
    · refine ab_go ok_SF_deed 1 rfl ?_
      rw [show ab_tgt 0 [9, 9, 9, 16, 16, 16, 25, 31, 37] 43 8 = 37 from by decide]
      show ab_Z m_SF_deed _ _ _ 37 [_, _, _] [] _
      refine ab_go ok_SF_deed 4 rfl ?_
      show ab_Z m_SF_deed _ _ _ 41 [_, _, _] [_, _, _] _
      refine ab_cl ok_SF_deed rfl [_, _, _] [] rfl ⟨_, _, rfl, rfl, Or.inl ⟨_, _, rfl, rfl⟩⟩ (Nat.le_of_ble_eq_true rfl) (t_Ha_bindsAfter d fm X s t hC.1.2.2.2.2.2.2.2.2.1 hC.1.2.2.2.2.2.2.2.2.2 hC.1.2.2.1 h6 h5 hC.2 he (n := 0) (by decide)) ?_
      rintro _ _ ⟨rfl, s1, rfl, hk⟩
      show ab_Z m_SF_deed _ _ _ 42 [_, _, _] [_] _
      exact ab_rI ok_SF_deed rfl (⟨rfl, s1, rfl, hk.to2⟩)
    · refine ab_go ok_SF_deed 1 rfl ?_
      rw [ab_tgt_d (h)]
      show ab_Z m_SF_deed _ _ _ 43 [_, _, _] [] _
      refine ab_go ok_SF_deed 1 rfl ?_
      show ab_Z m_SF_deed _ _ _ 44 [_, _, _] [_] _
      have ho := out_n (n := 9) h
      exact ab_rI ok_SF_deed rfl (⟨by rw [deedA, if_neg (ho 0 (by decide) (by decide)), if_neg (ho 1 (by decide) (by decide)), if_neg (ho 2 (by decide) (by decide)), if_neg (ho 3 (by decide) (by decide)), if_neg (ho 4 (by decide) (by decide)), if_neg (ho 5 (by decide) (by decide)), if_neg (ho 6 (by decide) (by decide)), if_neg (ho 7 (by decide) (by decide)), if_neg (ho 8 (by decide) (by decide))], s, rfl, Kp2.rf s⟩)
theorem t_SF_treaty (hC : CI s nc nd nt PT PG PB PF) (x w : Int32) : ab_T g_SF_treaty (d + 3) (0, 0) [.ref 0, .int x, .int w] (HA fm X s t) (P2 (if inR nt x then trtA s x.toNatClampNeg w else -1) fm X s t) := by
  have h6 : nd ≤ 6 := hC.1.2.2.2.1
  have ht6 : nt ≤ 6 := hC.1.2.2.2.2.2.1
  refine ab_T_of (M := m_SF_treaty) rfl rfl (Nat.le_of_ble_eq_true rfl) ?_
  show ab_Z m_SF_treaty _ _ _ 0 [_, _, _] [] _
  refine ab_go ok_SF_treaty 1 rfl ?_
  show ab_Z m_SF_treaty _ _ _ 1 [_, _, _] [_] _
  refine ab_br ok_SF_treaty rfl rfl ?_ ?_
  · intro h1
    show ab_Z m_SF_treaty _ _ _ 8 [_, _, _] [] _
    refine ab_go ok_SF_treaty 1 rfl ?_
    show ab_Z m_SF_treaty _ _ _ 9 [_, _, _] [_] _
    exact ab_rI ok_SF_treaty rfl (⟨by rw [if_neg (by have := i_neg h1; omega)], s, rfl, Kp2.rf s⟩)
  · intro h1
    show ab_Z m_SF_treaty _ _ _ 2 [_, _, _] [] _
    refine ab_go ok_SF_treaty 5 rfl ?_
    show ab_Z m_SF_treaty _ _ _ 7 [_, _, _] [_, _] _
    rw [hC.1.2.2.2.2.1]
    refine ab_br ok_SF_treaty rfl rfl ?_ ?_
    · intro h1'
      show ab_Z m_SF_treaty _ _ _ 10 [_, _, _] [] _
      have h2 : inR nt x := ⟨i_nn h1, by have := i_lt h1'; rw [nI_t (n := nt) (by omega)] at this; exact this⟩
      rw [if_pos h2]
      clear h1 h1'
      obtain ⟨k, hk, rfl⟩ := inR_nat h2
      rw [nI_c (by omega)]
      refine ab_go ok_SF_treaty 1 rfl ?_
      show ab_Z m_SF_treaty _ _ _ 11 [_, _, _] [_] _
      rcases sw_3 w with (rfl | rfl | rfl) | h
      · refine ab_go ok_SF_treaty 1 rfl ?_
        rw [show ab_tgt 0 [12, 12, 19] 28 0 = 12 from by decide]
        show ab_Z m_SF_treaty _ _ _ 12 [_, _, _] [] _
        refine ab_go ok_SF_treaty 5 rfl ?_
        show ab_Z m_SF_treaty _ _ _ 17 [_, _, _] [_, _, _] _
        refine ab_cl ok_SF_treaty rfl [_, _, _] [] rfl ⟨_, _, rfl, rfl, Or.inl ⟨_, _, rfl, rfl⟩⟩ (Nat.le_of_ble_eq_true rfl) (t_Te_treatyDeed (d + 1) fm X s t (show k < 6 by omega) (f := 0) (by decide)) ?_
        rintro _ _ ⟨rfl, rfl⟩
        show ab_Z m_SF_treaty _ _ _ 18 [_, _, _] [_] _
        exact ab_rI ok_SF_treaty rfl (⟨rfl, s, rfl, Kp2.rf s⟩)
      · refine ab_go ok_SF_treaty 1 rfl ?_
        rw [show ab_tgt 0 [12, 12, 19] 28 1 = 12 from by decide]
        show ab_Z m_SF_treaty _ _ _ 12 [_, _, _] [] _
        refine ab_go ok_SF_treaty 5 rfl ?_
        show ab_Z m_SF_treaty _ _ _ 17 [_, _, _] [_, _, _] _
        refine ab_cl ok_SF_treaty rfl [_, _, _] [] rfl ⟨_, _, rfl, rfl, Or.inl ⟨_, _, rfl, rfl⟩⟩ (Nat.le_of_ble_eq_true rfl) (t_Te_treatyDeed (d + 1) fm X s t (show k < 6 by omega) (f := 1) (by decide)) ?_
        rintro _ _ ⟨rfl, rfl⟩
        show ab_Z m_SF_treaty _ _ _ 18 [_, _, _] [_] _
        exact ab_rI ok_SF_treaty rfl (⟨rfl, s, rfl, Kp2.rf s⟩)
      · refine ab_go ok_SF_treaty 1 rfl ?_
        rw [show ab_tgt 0 [12, 12, 19] 28 2 = 19 from by decide]
        show ab_Z m_SF_treaty _ _ _ 19 [_, _, _] [] _
        refine ab_go ok_SF_treaty 3 rfl ?_
        show ab_Z m_SF_treaty _ _ _ 22 [_, _, _] [_, _] _
        refine ab_cl ok_SF_treaty rfl [_, _] [] rfl ⟨_, _, rfl, rfl, Or.inl ⟨_, _, rfl, rfl⟩⟩ (Nat.le_of_ble_eq_true rfl) (t_Ha_isHeld d fm X s t hC.1.2.2.1 h6 ht6 hC.2 hk) ?_
        rintro _ _ ⟨rfl, rfl⟩
        show ab_Z m_SF_treaty _ _ _ 23 [_, _, _] [_] _
        refine ab_br ok_SF_treaty rfl rfl ?_ ?_
        · intro h3
          show ab_Z m_SF_treaty _ _ _ 26 [_, _, _] [] _
          refine ab_go ok_SF_treaty 1 rfl ?_
          show ab_Z m_SF_treaty _ _ _ 27 [_, _, _] [_] _
          exact ab_rI ok_SF_treaty rfl (⟨by rw [show trtA s k 2 = bB (heldB s k) from rfl, h3], s, rfl, Kp2.rf s⟩)
        · intro h3
          show ab_Z m_SF_treaty _ _ _ 24 [_, _, _] [] _
          refine ab_go ok_SF_treaty 2 rfl ?_
          show ab_Z m_SF_treaty _ _ _ 27 [_, _, _] [_] _
          exact ab_rI ok_SF_treaty rfl (⟨by rw [show trtA s k 2 = bB (heldB s k) from rfl, bB_n0 h3]; rfl, s, rfl, Kp2.rf s⟩)
      · refine ab_go ok_SF_treaty 1 rfl ?_
        rw [ab_tgt_d (h)]
        show ab_Z m_SF_treaty _ _ _ 28 [_, _, _] [] _
        refine ab_go ok_SF_treaty 1 rfl ?_
        show ab_Z m_SF_treaty _ _ _ 29 [_, _, _] [_] _
        have ho := out_n (n := 3) h
        exact ab_rI ok_SF_treaty rfl (⟨by rw [trtA, if_neg (ho 0 (by decide) (by decide)), if_neg (ho 1 (by decide) (by decide)), if_neg (ho 2 (by decide) (by decide))], s, rfl, Kp2.rf s⟩)
    · intro h1'
      show ab_Z m_SF_treaty _ _ _ 8 [_, _, _] [] _
      refine ab_go ok_SF_treaty 1 rfl ?_
      show ab_Z m_SF_treaty _ _ _ 9 [_, _, _] [_] _
      exact ab_rI ok_SF_treaty rfl (⟨by rw [if_neg (by have := i_nlt h1'; rw [nI_t (n := nt) (by omega)] at this; omega)], s, rfl, Kp2.rf s⟩)
theorem t_SF_takes (hC : CI s nc nd nt PT PG PB PF) (x y z : Int32) : ab_T g_SF_takes (d + 5) (0, 0) [.ref 0, .int x, .int y, .int z] (HA fm X s t) (P2 (if inR nc x ∧ inR nd y ∧ inR 3 z then TV s PT nd x.toNatClampNeg y.toNatClampNeg z.toNatClampNeg else -1) fm X s t) := by
  have h5 : nc ≤ 5 := hC.1.2.1
  have h6 : nd ≤ 6 := hC.1.2.2.2.1
  refine ab_T_of (M := m_SF_takes) rfl rfl (Nat.le_of_ble_eq_true rfl) ?_
  show ab_Z m_SF_takes _ _ _ 0 [_, _, _, _] [] _
  refine ab_go ok_SF_takes 3 rfl ?_
  show ab_Z m_SF_takes _ _ _ 3 [_, _, _, _] [_, _] _
  refine ab_cl ok_SF_takes rfl [_, _] [] rfl ⟨_, _, rfl, rfl, Or.inl ⟨_, _, rfl, rfl⟩⟩ (Nat.le_of_ble_eq_true rfl) (t_Ha_isClerk' (d + 4) fm X s t hC.1 x) ?_
  rintro _ _ ⟨rfl, rfl⟩
  show ab_Z m_SF_takes _ _ _ 4 [_, _, _, _] [_] _
  refine ab_br ok_SF_takes rfl rfl ?_ ?_
  · intro h1
    show ab_Z m_SF_takes _ _ _ 13 [_, _, _, _] [] _
    refine ab_go ok_SF_takes 1 rfl ?_
    show ab_Z m_SF_takes _ _ _ 14 [_, _, _, _] [_] _
    exact ab_rI ok_SF_takes rfl (⟨by rw [if_neg (fun q => bI_0.mp h1 q.1)], s, rfl, Kp2.rf s⟩)
  · intro h1
    show ab_Z m_SF_takes _ _ _ 5 [_, _, _, _] [] _
    refine ab_go ok_SF_takes 3 rfl ?_
    show ab_Z m_SF_takes _ _ _ 8 [_, _, _, _] [_, _] _
    refine ab_cl ok_SF_takes rfl [_, _] [] rfl ⟨_, _, rfl, rfl, Or.inl ⟨_, _, rfl, rfl⟩⟩ (Nat.le_of_ble_eq_true rfl) (t_Ha_isDeed' (d + 4) fm X s t hC.1 y) ?_
    rintro _ _ ⟨rfl, rfl⟩
    show ab_Z m_SF_takes _ _ _ 9 [_, _, _, _] [_] _
    refine ab_br ok_SF_takes rfl rfl ?_ ?_
    · intro h2
      show ab_Z m_SF_takes _ _ _ 13 [_, _, _, _] [] _
      refine ab_go ok_SF_takes 1 rfl ?_
      show ab_Z m_SF_takes _ _ _ 14 [_, _, _, _] [_] _
      exact ab_rI ok_SF_takes rfl (⟨by rw [if_neg (fun q => bI_0.mp h2 q.2.1)], s, rfl, Kp2.rf s⟩)
    · intro h2
      show ab_Z m_SF_takes _ _ _ 10 [_, _, _, _] [] _
      refine ab_go ok_SF_takes 1 rfl ?_
      show ab_Z m_SF_takes _ _ _ 11 [_, _, _, _] [_] _
      refine ab_cl ok_SF_takes rfl [_] [] rfl rfl (Nat.le_of_ble_eq_true rfl) (t_SF_isFeature (d + 4) _ z) ?_
      rintro _ _ ⟨rfl, rfl⟩
      show ab_Z m_SF_takes _ _ _ 12 [_, _, _, _] [_] _
      refine ab_br ok_SF_takes rfl rfl ?_ ?_
      · intro h3
        show ab_Z m_SF_takes _ _ _ 13 [_, _, _, _] [] _
        refine ab_go ok_SF_takes 1 rfl ?_
        show ab_Z m_SF_takes _ _ _ 14 [_, _, _, _] [_] _
        exact ab_rI ok_SF_takes rfl (⟨by rw [if_neg (fun q => bI_0.mp h3 q.2.2)], s, rfl, Kp2.rf s⟩)
      · intro h3
        show ab_Z m_SF_takes _ _ _ 15 [_, _, _, _] [] _
        have g1 := bI_n0 h1
        have g2 := bI_n0 h2
        have g3 : inR 3 z := bI_n0 h3
        clear h1 h2 h3
        rw [if_pos ⟨g1, g2, g3⟩]
        obtain ⟨c, hc, rfl⟩ := inR_nat g1
        obtain ⟨e, he, rfl⟩ := inR_nat g2
        obtain ⟨f, hf, rfl⟩ := inR_nat g3
        rw [nI_c (n := c) (by omega), nI_c (n := e) (by omega), nI_c (n := f) (by omega)]
        refine ab_go ok_SF_takes 5 rfl ?_
        show ab_Z m_SF_takes _ _ _ 20 [_, _, _, _] [_, _, _, _] _
        refine ab_cl ok_SF_takes rfl [_, _, _, _] [] rfl ⟨_, _, rfl, rfl, Or.inl ⟨_, _, rfl, rfl⟩⟩ (Nat.le_of_ble_eq_true rfl) (t_Ha_takesNow d fm X s t hC.1.2.2.2.2.2.2.1 hC.1.2.2.1 h6 (show c < 5 by omega) (show e < 6 by omega) hf) ?_
        rintro _ _ ⟨rfl, s1, rfl, hk⟩
        show ab_Z m_SF_takes _ _ _ 21 [_, _, _, _] [_] _
        exact ab_rI ok_SF_takes rfl (⟨rfl, s1, rfl, hk.to2⟩)
end

