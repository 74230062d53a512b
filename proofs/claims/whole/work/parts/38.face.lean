/-! the face, fifth part: what changes -/
def byF (x : Int32) (k : Nat) : Int32 := (ushr x (nI (24 - 8 * k))).toInt8.toInt32.toInt8.toInt32
def tpS (s : Nat → Nat → Int32) (L j : Nat) (F : Nat → Int32) : Nat → Nat → Int32 := ab_up (ab_ro s 2 (fillR (s 2) L j F)) 1 1 (nI (L + j))
theorem tpS_0 {s : Nat → Nat → Int32} {L : Nat} (F : Nat → Int32) (h : s 1 1 = nI L) : tpS s L 0 F = s := by
  unfold tpS
  funext c k
  by_cases h1 : c = 1
  · subst h1
    by_cases h2 : k = 1
    · subst h2; rw [ab_up_s]; exact h.symm
    · rw [ab_up_n h2, ab_ro_o (by decide)]
  · rw [ab_up_o h1]
    by_cases h2 : c = 2
    · subst h2; rw [ab_ro_c, fillR_0]
    · rw [ab_ro_o h2]
theorem tpS_s (s : Nat → Nat → Int32) (L j : Nat) (F : Nat → Int32) : ab_up (ab_up (tpS s L j F) 2 (L + j) (F j)) 1 1 (nI (L + j) + 1) = tpS s L (j + 1) F := by
  unfold tpS
  rw [← nI_succ, Nat.add_assoc]
  funext c k
  by_cases h1 : c = 1
  · subst h1
    by_cases h2 : k = 1
    · subst h2; rw [ab_up_s, ab_up_s]
    · rw [ab_up_n h2, ab_up_n h2, ab_up_o (by decide), ab_up_n h2, ab_ro_o (by decide), ab_ro_o (by decide)]
  · rw [ab_up_o h1, ab_up_o h1]
    by_cases h2 : c = 2
    · subst h2
      rw [ab_ro_c, ab_up_c, ← fillR_s, ab_up_o (by decide), ab_ro_c]
      rfl
    · rw [ab_up_o h2, ab_up_o h1, ab_ro_o h2, ab_ro_o h2]
theorem fillR_j {r : Nat → Int32} {a k j : Nat} {f g : Nat → Int32} (h : ∀ i, i < j → f (k + i) = g i) : fillR (fillR r a k f) (a + k) j g = fillR r a (k + j) f := by
  funext i
  unfold fillR
  by_cases h1 : a + k ≤ i ∧ i < a + k + j
  · rw [if_pos h1, if_pos (by omega), ← h _ (by omega)]
    congr 1
    omega
  · rw [if_neg h1]
    by_cases h2 : a ≤ i ∧ i < a + k
    · rw [if_pos h2, if_pos (by omega)]
    · rw [if_neg h2, if_neg (by omega)]
theorem tpS_j {s : Nat → Nat → Int32} {L k j : Nat} {f g : Nat → Int32} (h : ∀ i, i < j → f (k + i) = g i) : tpS (tpS s L k f) (L + k) j g = tpS s L (k + j) f := by
  have e : tpS s L k f 2 = fillR (s 2) L k f := by
    unfold tpS
    rw [ab_up_o (by decide), ab_ro_c]
  unfold tpS at e ⊢
  rw [e, fillR_j h, Nat.add_assoc]
  funext c i
  by_cases h1 : c = 1
  · subst h1
    by_cases h2 : i = 1
    · subst h2; rw [ab_up_s, ab_up_s]
    · rw [ab_up_n h2, ab_up_n h2, ab_ro_o (by decide), ab_ro_o (by decide), ab_up_n h2, ab_ro_o (by decide)]
  · rw [ab_up_o h1, ab_up_o h1]
    by_cases h2 : c = 2
    · subst h2; rw [ab_ro_c, ab_ro_c]
    · rw [ab_ro_o h2, ab_ro_o h2, ab_up_o h1, ab_ro_o h2]
theorem tpS_l (s : Nat → Nat → Int32) (L j : Nat) (F : Nat → Int32) : tpS s L j F 1 1 = nI (L + j) := ab_up_s ..
def shF : Nat → Int32
  | 0 => 24 | 1 => 16 | 2 => 8 | 3 => 0 | _ => -8
theorem shF_p : ∀ j, j < 4 → ¬ shF j < 0 := by decide
theorem shF_s : ∀ j, j < 4 → shF j + (-8) = shF (j + 1) := by decide
theorem shF_v : ∀ j, j < 4 → shF j = nI (24 - 8 * j) := by decide
theorem L2000 : (2000 : Int32) = nI 2000 := rfl
section
variable (d : Nat) (fm : Value) (X : Nat × (Nat → Int32)) (s : Nat → Nat → Int32) (t : Nat → Nat → Int64)
variable {nc nd nt : Nat} {PT PG PB PF : List (List Ins)}
theorem t_Ta_hasRoom {L : Nat} (hL : s 1 1 = nI L) (h2 : L ≤ 2000) : ab_T g_Ta_hasRoom d (0, 0) [.ref 1, .int 20] (HA fm X s t) (PI (bI (L + 20 ≤ 2000)) (HA fm X s t)) := by
  have e : ∀ k, k ≤ 2000 → (Int32.ofNat 2000 - nI k).toInt = 2000 - (k : Int) := by
    intro k hk
    rw [show Int32.ofNat 2000 - nI k = nI (2000 - k) from by
      rw [show Int32.ofNat 2000 = nI (2000 - k) + nI k from by rw [nI_add, Nat.sub_add_cancel hk]; rfl]
      exact Int32.add_sub_cancel ..]
    rw [nI_t (by omega)]
    omega
  refine ab_T_of (M := m_Ta_hasRoom) rfl rfl (Nat.le_of_ble_eq_true rfl) ?_
  show ab_Z m_Ta_hasRoom _ _ _ 0 [_, _] [] _
  refine ab_go ok_Ta_hasRoom 7 rfl ?_
  show ab_Z m_Ta_hasRoom _ _ _ 7 [_, _] [_, _] _
  rw [hL]
  have e2 := e L h2
  generalize Int32.ofNat 2000 - nI L = z at e2 ⊢
  refine ab_br ok_Ta_hasRoom rfl rfl ?_ ?_
  · intro h1
    show ab_Z m_Ta_hasRoom _ _ _ 10 [_, _] [] _
    refine ab_go ok_Ta_hasRoom 1 rfl ?_
    show ab_Z m_Ta_hasRoom _ _ _ 11 [_, _] [_] _
    exact ab_rZ ok_Ta_hasRoom rfl (by decide) (⟨by rw [bI_f (by have := i_ltR (z := 20) rfl h1; omega)], rfl⟩)
  · intro h1
    show ab_Z m_Ta_hasRoom _ _ _ 8 [_, _] [] _
    refine ab_go ok_Ta_hasRoom 2 rfl ?_
    show ab_Z m_Ta_hasRoom _ _ _ 11 [_, _] [_] _
    exact ab_rZ ok_Ta_hasRoom rfl (by decide) (⟨by rw [bI_t (by have := i_nltR (z := 20) rfl h1; omega)], rfl⟩)
theorem t_Ta_addFour {L : Nat} (hL : s 1 1 = nI L) (h2 : L + 4 ≤ 2000) (x : Int32) : ab_T g_Ta_addFour d (0, 0) [.ref 1, .int x] (HA fm X s t) (PV (HA fm X (tpS s L 4 (byF x)) t)) := by
  refine ab_T_of (M := m_Ta_addFour) rfl rfl (Nat.le_of_ble_eq_true rfl) ?_
  show ab_Z m_Ta_addFour _ _ _ 0 [_, _, _] [] _
  refine ab_go ok_Ta_addFour 2 rfl ?_
  show ab_Z m_Ta_addFour _ _ _ 2 [_, _, _] [] _
  refine Eq.mpr (congrArg (fun z => ab_Z m_Ta_addFour d (0, 0) (PV (HA fm X (tpS s L 4 (byF x)) t)) 2 [some (.ref 1), some (.int x), some (.int 24)] [] (HA fm X z t)) (tpS_0 (byF x) hL).symm) ?_
  refine lp_dn 4 (fun j => ab_Z m_Ta_addFour d (0, 0) (PV (HA fm X (tpS s L 4 (byF x)) t)) 2 [some (.ref 1), some (.int x), some (.int (shF j))] [] (HA fm X (tpS s L j (byF x)) t)) ?_ ?_
  · refine ab_go ok_Ta_addFour 1 rfl ?_
    show ab_Z m_Ta_addFour _ _ _ 3 [_, _, _] [_] _
    refine ab_go ok_Ta_addFour 1 rfl ?_
    show ab_Z m_Ta_addFour _ _ _ 30 [_, _, _] [] _
    exact ab_rV ok_Ta_addFour rfl (⟨rfl, rfl⟩)
  · intro j hj ih
    refine ab_go ok_Ta_addFour 1 rfl ?_
    show ab_Z m_Ta_addFour _ _ _ 3 [_, _, _] [_] _
    refine ab_br ok_Ta_addFour rfl rfl ?_ ?_
    · intro h1
      show ab_Z m_Ta_addFour _ _ _ 30 [_, _, _] [] _
      exact absurd h1 (shF_p j hj)
    · intro h1
      show ab_Z m_Ta_addFour _ _ _ 4 [_, _, _] [] _
      refine ab_go ok_Ta_addFour 2 rfl ?_
      show ab_Z m_Ta_addFour _ _ _ 6 [_, _, _] [_] _
      rw [tpS_l]
      refine ab_br ok_Ta_addFour rfl rfl ?_ ?_
      · intro h3
        show ab_Z m_Ta_addFour _ _ _ 28 [_, _, _] [] _
        exact absurd h3 (nI_l0 (by omega))
      · intro h3
        show ab_Z m_Ta_addFour _ _ _ 7 [_, _, _] [] _
        refine ab_go ok_Ta_addFour 5 rfl ?_
        show ab_Z m_Ta_addFour _ _ _ 12 [_, _, _] [_, _] _
        rw [tpS_l]
        refine ab_br ok_Ta_addFour rfl rfl ?_ ?_
        · intro h4
          show ab_Z m_Ta_addFour _ _ _ 28 [_, _, _] [] _
          exact absurd h4 (lp_in (N := 2000) (by decide) (by omega))
        · intro h4
          show ab_Z m_Ta_addFour _ _ _ 13 [_, _, _] [] _
          refine ab_go ok_Ta_addFour 8 rfl ?_
          show ab_Z m_Ta_addFour _ _ _ 21 [_, _, _] [_, _, _] _
          rw [tpS_l]
          refine ab_ck ok_Ta_addFour rfl rfl (by rw [nI_t (by omega)]; omega) ?_
          show ab_Z m_Ta_addFour _ _ _ 22 [_, _, _] [] _
          rw [nI_c (by omega)]
          refine ab_go ok_Ta_addFour 8 rfl ?_
          show ab_Z m_Ta_addFour _ _ _ 2 [_, _, _] [] _
          rw [ab_up_o (by decide), tpS_l, show shF j + (-8) = shF (j + 1) from shF_s j hj]
          have e : (((x.toUInt32 >>> ((shF j).toUInt32 &&& Int32.toUInt32 31)).toInt32).toInt8.toInt32).toInt8.toInt32 = byF x j := by rw [shF_v j hj]; rfl
          rw [e, tpS_s]
          exact ih
theorem t_Ta_drop {L : Nat} (hL : s 1 1 = nI L) (h2 : L ≤ 2000) (x : Int32) : ab_T g_Ta_drop d (0, 0) [.ref 1, .int x] (HA fm X s t) (fun v h => v = some (.int (bI (inR (L + 1) x))) ∧ h = HA fm X (if inR (L + 1) x then ab_up s 1 1 (nI (L - x.toNatClampNeg)) else s) t) := by
  refine ab_T_of (M := m_Ta_drop) rfl rfl (Nat.le_of_ble_eq_true rfl) ?_
  show ab_Z m_Ta_drop _ _ _ 0 [_, _] [] _
  refine ab_go ok_Ta_drop 1 rfl ?_
  show ab_Z m_Ta_drop _ _ _ 1 [_, _] [_] _
  refine ab_br ok_Ta_drop rfl rfl ?_ ?_
  · intro h1
    show ab_Z m_Ta_drop _ _ _ 6 [_, _] [] _
    refine ab_go ok_Ta_drop 1 rfl ?_
    show ab_Z m_Ta_drop _ _ _ 7 [_, _] [_] _
    have h3 : ¬ inR (L + 1) x := fun q => by have := i_neg h1; have := q.1; omega
    exact ab_rZ ok_Ta_drop rfl (by decide) (⟨by rw [bI_f h3], by rw [if_neg h3]⟩)
  · intro h1
    show ab_Z m_Ta_drop _ _ _ 2 [_, _] [] _
    refine ab_go ok_Ta_drop 3 rfl ?_
    show ab_Z m_Ta_drop _ _ _ 5 [_, _] [_, _] _
    rw [hL]
    refine ab_br ok_Ta_drop rfl rfl ?_ ?_
    · intro h3
      show ab_Z m_Ta_drop _ _ _ 8 [_, _] [] _
      have h4 : inR (L + 1) x := ⟨i_nn h1, by have := i_le h3; rw [nI_t (n := L) (by omega)] at this; omega⟩
      clear h1 h3
      refine ab_go ok_Ta_drop 7 rfl ?_
      show ab_Z m_Ta_drop _ _ _ 15 [_, _] [_] _
      rw [hL]
      obtain ⟨k, hk, rfl⟩ := inR_nat h4
      have e : nI L - nI k = nI (L - k) := by
        rw [show nI L = nI (L - k) + nI k from by rw [nI_add, Nat.sub_add_cancel (by omega)]]
        exact Int32.add_sub_cancel ..
      rw [e]
      exact ab_rZ ok_Ta_drop rfl (by decide) (⟨by rw [bI_t h4], by rw [if_pos h4, nI_c (by omega)]⟩)
    · intro h3
      show ab_Z m_Ta_drop _ _ _ 6 [_, _] [] _
      refine ab_go ok_Ta_drop 1 rfl ?_
      show ab_Z m_Ta_drop _ _ _ 7 [_, _] [_] _
      have h4 : ¬ inR (L + 1) x := fun q => by have := i_nle h3; rw [nI_t (n := L) (by omega)] at this; have := q.2; omega
      exact ab_rZ ok_Ta_drop rfl (by decide) (⟨by rw [bI_f h4], by rw [if_neg h4]⟩)
def fedA (a b c e g : Int32) : Nat → Int32
  | 0 => a | 1 => b | 2 => c | 3 => e | _ => g
def fedF (a b c e g : Int32) (k : Nat) : Int32 := byF (fedA a b c e g (k / 4)) (k % 4)
theorem fedF_at (a b c e g : Int32) (n : Nat) : ∀ i, i < 4 → fedF a b c e g (4 * n + i) = byF (fedA a b c e g n) i := by
  intro i hi
  unfold fedF
  rw [show (4 * n + i) / 4 = n by omega, show (4 * n + i) % 4 = i by omega]
theorem t_SF_feed {L : Nat} (hL : s 1 1 = nI L) (h2 : L ≤ 2000) (a b c e g : Int32) : ab_T g_SF_feed (d + 1) (0, 0) [.ref 0, .int a, .int b, .int c, .int e, .int g] (HA fm X s t) (fun v h => v = some (.int (if L + 20 ≤ 2000 then nI (L + 20) else -1)) ∧ h = HA fm X (if L + 20 ≤ 2000 then tpS s L 20 (fedF a b c e g) else s) t) := by
  refine ab_T_of (M := m_SF_feed) rfl rfl (Nat.le_of_ble_eq_true rfl) ?_
  show ab_Z m_SF_feed _ _ _ 0 [_, _, _, _, _, _] [] _
  refine ab_go ok_SF_feed 3 rfl ?_
  show ab_Z m_SF_feed _ _ _ 3 [_, _, _, _, _, _] [_, _] _
  refine ab_cl ok_SF_feed rfl [_, _] [] rfl ⟨_, _, rfl, rfl, Or.inl ⟨_, _, rfl, rfl⟩⟩ (Nat.le_of_ble_eq_true rfl) (t_Ta_hasRoom d fm X s t hL h2) ?_
  rintro _ _ ⟨rfl, rfl⟩
  show ab_Z m_SF_feed _ _ _ 4 [_, _, _, _, _, _] [_] _
  refine ab_br ok_SF_feed rfl rfl ?_ ?_
  · intro h1
    show ab_Z m_SF_feed _ _ _ 5 [_, _, _, _, _, _] [] _
    refine ab_go ok_SF_feed 1 rfl ?_
    show ab_Z m_SF_feed _ _ _ 6 [_, _, _, _, _, _] [_] _
    have h3 := bI_0.mp h1
    exact ab_rI ok_SF_feed rfl (⟨by rw [if_neg h3], by rw [if_neg h3]⟩)
  · intro h1
    show ab_Z m_SF_feed _ _ _ 7 [_, _, _, _, _, _] [] _
    have h3 := bI_n0 h1
    rw [if_pos h3, if_pos h3]
    refine ab_go ok_SF_feed 3 rfl ?_
    show ab_Z m_SF_feed _ _ _ 10 [_, _, _, _, _, _] [_, _] _
    refine ab_cl ok_SF_feed rfl [_, _] [] rfl ⟨_, _, rfl, rfl, Or.inl ⟨_, _, rfl, rfl⟩⟩ (Nat.le_of_ble_eq_true rfl) (t_Ta_addFour d fm X s t hL (by omega) a) ?_
    rintro _ _ ⟨rfl, rfl⟩
    show ab_Z m_SF_feed _ _ _ 11 [_, _, _, _, _, _] [] _
    rw [show tpS s L 4 (byF a) = tpS s L (0 + 4) (fedF a b c e g) from by rw [← tpS_j (k := 0) (fedF_at a b c e g 0), tpS_0 _ hL]; rfl]
    refine ab_go ok_SF_feed 3 rfl ?_
    show ab_Z m_SF_feed _ _ _ 14 [_, _, _, _, _, _] [_, _] _
    refine ab_cl ok_SF_feed rfl [_, _] [] rfl ⟨_, _, rfl, rfl, Or.inl ⟨_, _, rfl, rfl⟩⟩ (Nat.le_of_ble_eq_true rfl) (t_Ta_addFour d fm X _ t (tpS_l s L 4 (fedF a b c e g)) (by omega) b) ?_
    rintro _ _ ⟨rfl, rfl⟩
    show ab_Z m_SF_feed _ _ _ 15 [_, _, _, _, _, _] [] _
    rw [tpS_j (f := fedF a b c e g) (k := 4) (show ∀ i, i < 4 → fedF a b c e g (4 + i) = byF b i from fedF_at a b c e g 1)]
    refine ab_go ok_SF_feed 3 rfl ?_
    show ab_Z m_SF_feed _ _ _ 18 [_, _, _, _, _, _] [_, _] _
    refine ab_cl ok_SF_feed rfl [_, _] [] rfl ⟨_, _, rfl, rfl, Or.inl ⟨_, _, rfl, rfl⟩⟩ (Nat.le_of_ble_eq_true rfl) (t_Ta_addFour d fm X _ t (tpS_l s L 8 (fedF a b c e g)) (by omega) c) ?_
    rintro _ _ ⟨rfl, rfl⟩
    show ab_Z m_SF_feed _ _ _ 19 [_, _, _, _, _, _] [] _
    rw [tpS_j (f := fedF a b c e g) (k := 8) (show ∀ i, i < 4 → fedF a b c e g (8 + i) = byF c i from fedF_at a b c e g 2)]
    refine ab_go ok_SF_feed 3 rfl ?_
    show ab_Z m_SF_feed _ _ _ 22 [_, _, _, _, _, _] [_, _] _
    refine ab_cl ok_SF_feed rfl [_, _] [] rfl ⟨_, _, rfl, rfl, Or.inl ⟨_, _, rfl, rfl⟩⟩ (Nat.le_of_ble_eq_true rfl) (t_Ta_addFour d fm X _ t (tpS_l s L 12 (fedF a b c e g)) (by omega) e) ?_
    rintro _ _ ⟨rfl, rfl⟩
    show ab_Z m_SF_feed _ _ _ 23 [_, _, _, _, _, _] [] _
    rw [tpS_j (f := fedF a b c e g) (k := 12) (show ∀ i, i < 4 → fedF a b c e g (12 + i) = byF e i from fedF_at a b c e g 3)]
    refine ab_go ok_SF_feed 3 rfl ?_
    show ab_Z m_SF_feed _ _ _ 26 [_, _, _, _, _, _] [_, _] _
    refine ab_cl ok_SF_feed rfl [_, _] [] rfl ⟨_, _, rfl, rfl, Or.inl ⟨_, _, rfl, rfl⟩⟩ (Nat.le_of_ble_eq_true rfl) (t_Ta_addFour d fm X _ t (tpS_l s L 16 (fedF a b c e g)) (by omega) g) ?_
    rintro _ _ ⟨rfl, rfl⟩
    show ab_Z m_SF_feed _ _ _ 27 [_, _, _, _, _, _] [] _
    rw [tpS_j (f := fedF a b c e g) (k := 16) (show ∀ i, i < 4 → fedF a b c e g (16 + i) = byF g i from fedF_at a b c e g 4)]
    refine ab_go ok_SF_feed 3 rfl ?_
    show ab_Z m_SF_feed _ _ _ 30 [_, _, _, _, _, _] [_] _
    rw [tpS_l]
    exact ab_rI ok_SF_feed rfl (⟨rfl, rfl⟩)
theorem t_SF_back {L : Nat} (hL : s 1 1 = nI L) (h2 : L ≤ 2000) (x : Int32) : ab_T g_SF_back (d + 1) (0, 0) [.ref 0, .int x] (HA fm X s t) (fun v h => v = some (.int (if inR (L + 1) x then nI (L - x.toNatClampNeg) else -1)) ∧ h = HA fm X (if inR (L + 1) x then ab_up s 1 1 (nI (L - x.toNatClampNeg)) else s) t) := by
  refine ab_T_of (M := m_SF_back) rfl rfl (Nat.le_of_ble_eq_true rfl) ?_
  show ab_Z m_SF_back _ _ _ 0 [_, _] [] _
  refine ab_go ok_SF_back 3 rfl ?_
  show ab_Z m_SF_back _ _ _ 3 [_, _] [_, _] _
  refine ab_cl ok_SF_back rfl [_, _] [] rfl ⟨_, _, rfl, rfl, Or.inl ⟨_, _, rfl, rfl⟩⟩ (Nat.le_of_ble_eq_true rfl) (t_Ta_drop d fm X s t hL h2 x) ?_
  rintro _ _ ⟨rfl, rfl⟩
  show ab_Z m_SF_back _ _ _ 4 [_, _] [_] _
  refine ab_br ok_SF_back rfl rfl ?_ ?_
  · intro h1
    show ab_Z m_SF_back _ _ _ 9 [_, _] [] _
    refine ab_go ok_SF_back 1 rfl ?_
    show ab_Z m_SF_back _ _ _ 10 [_, _] [_] _
    have h3 := bI_0.mp h1
    exact ab_rI ok_SF_back rfl (⟨by rw [if_neg h3], by rw [if_neg h3]⟩)
  · intro h1
    show ab_Z m_SF_back _ _ _ 5 [_, _] [] _
    have h3 := bI_n0 h1
    rw [if_pos h3, if_pos h3]
    refine ab_go ok_SF_back 4 rfl ?_
    show ab_Z m_SF_back _ _ _ 10 [_, _] [_] _
    rw [ab_up_s]
    exact ab_rI ok_SF_back rfl (⟨rfl, rfl⟩)
theorem t_SF_tell {k : Nat} (hk : s 41 3 = nI k) (hk2 : k ≤ 20) (f v b : Int32) : ab_T g_SF_tell (d + 1) (0, 0) [.ref 0, .int f, .int v, .int b] (HA fm X s t) (fun r h => r = some (.int (if (inR 3 f ∧ inR 10 v) ∧ k < 20 then nI k else -1)) ∧ h = HA fm X (if (inR 3 f ∧ inR 10 v) ∧ k < 20 then toldS s k f v b else s) t) := by
  refine ab_T_of (M := m_SF_tell) rfl rfl (Nat.le_of_ble_eq_true rfl) ?_
  show ab_Z m_SF_tell _ _ _ 0 [_, _, _, _] [] _
  refine ab_go ok_SF_tell 1 rfl ?_
  show ab_Z m_SF_tell _ _ _ 1 [_, _, _, _] [_] _
  refine ab_cl ok_SF_tell rfl [_] [] rfl rfl (Nat.le_of_ble_eq_true rfl) (t_SF_isFeature d _ f) ?_
  rintro _ _ ⟨rfl, rfl⟩
  show ab_Z m_SF_tell _ _ _ 2 [_, _, _, _] [_] _
  refine ab_br ok_SF_tell rfl rfl ?_ ?_
  · intro h1
    show ab_Z m_SF_tell _ _ _ 13 [_, _, _, _] [] _
    refine ab_go ok_SF_tell 1 rfl ?_
    show ab_Z m_SF_tell _ _ _ 14 [_, _, _, _] [_] _
    have h3 : ¬ ((inR 3 f ∧ inR 10 v) ∧ k < 20) := fun q => bI_0.mp h1 q.1.1
    exact ab_rI ok_SF_tell rfl (⟨by rw [if_neg h3], by rw [if_neg h3]⟩)
  · intro h1
    show ab_Z m_SF_tell _ _ _ 3 [_, _, _, _] [] _
    refine ab_go ok_SF_tell 1 rfl ?_
    show ab_Z m_SF_tell _ _ _ 4 [_, _, _, _] [_] _
    refine ab_cl ok_SF_tell rfl [_] [] rfl rfl (Nat.le_of_ble_eq_true rfl) (t_SF_isLevel d _ v) ?_
    rintro _ _ ⟨rfl, rfl⟩
    show ab_Z m_SF_tell _ _ _ 5 [_, _, _, _] [_] _
    refine ab_br ok_SF_tell rfl rfl ?_ ?_
    · intro h2
      show ab_Z m_SF_tell _ _ _ 13 [_, _, _, _] [] _
      refine ab_go ok_SF_tell 1 rfl ?_
      show ab_Z m_SF_tell _ _ _ 14 [_, _, _, _] [_] _
      have h3 : ¬ ((inR 3 f ∧ inR 10 v) ∧ k < 20) := fun q => bI_0.mp h2 q.1.2
      exact ab_rI ok_SF_tell rfl (⟨by rw [if_neg h3], by rw [if_neg h3]⟩)
    · intro h2
      show ab_Z m_SF_tell _ _ _ 6 [_, _, _, _] [] _
      refine ab_go ok_SF_tell 5 rfl ?_
      show ab_Z m_SF_tell _ _ _ 11 [_, _, _, _] [_, _, _, _] _
      refine ab_cl ok_SF_tell rfl [_, _, _, _] [] rfl ⟨_, _, rfl, rfl, Or.inl ⟨_, _, rfl, rfl⟩⟩ (Nat.le_of_ble_eq_true rfl) (t_Tl_add d fm X s t hk hk2 f v b) ?_
      rintro _ _ ⟨rfl, rfl⟩
      show ab_Z m_SF_tell _ _ _ 12 [_, _, _, _] [_] _
      refine ab_go ok_SF_tell 1 rfl ?_
      show ab_Z m_SF_tell _ _ _ 14 [_, _, _, _] [_] _
      have g : inR 3 f ∧ inR 10 v := ⟨bI_n0 h1, bI_n0 h2⟩
      by_cases h4 : k < 20
      · rw [if_pos h4, if_pos h4]
        exact ab_rI ok_SF_tell rfl (⟨by rw [if_pos ⟨g, h4⟩], by rw [if_pos ⟨g, h4⟩]⟩)
      · rw [if_neg h4, if_neg h4]
        exact ab_rI ok_SF_tell rfl (⟨by rw [if_neg (fun q => h4 q.2)], by rw [if_neg (fun q => h4 q.2)]⟩)
theorem t_SF_forget : ab_T g_SF_forget (d + 1) (0, 0) [.ref 0] (HA fm X s t) (PI (s 41 3) (HA fm X (ab_up s 41 3 0) t)) := by
  refine ab_T_of (M := m_SF_forget) rfl rfl (Nat.le_of_ble_eq_true rfl) ?_
  show ab_Z m_SF_forget _ _ _ 0 [_] [] _
  refine ab_go ok_SF_forget 2 rfl ?_
  show ab_Z m_SF_forget _ _ _ 2 [_] [_] _
  refine ab_cl ok_SF_forget rfl [_] [] rfl ⟨_, _, rfl, rfl, Or.inl ⟨_, _, rfl, rfl⟩⟩ (Nat.le_of_ble_eq_true rfl) (t_Tl_drop d fm X s t) ?_
  rintro _ _ ⟨rfl, rfl⟩
  show ab_Z m_SF_forget _ _ _ 3 [_] [_] _
  exact ab_rI ok_SF_forget rfl (⟨rfl, rfl⟩)
theorem t_SF_hold (x : Int32) : ab_T g_SF_hold (d + 2) (0, 0) [.ref 0, .int x] (HA fm X s t) (fun v h => v = some (.int (bI (inR 3 x))) ∧ h = HA fm X (if inR 3 x then slF s x.toNatClampNeg else s) t) := by
  refine ab_T_of (M := m_SF_hold) rfl rfl (Nat.le_of_ble_eq_true rfl) ?_
  show ab_Z m_SF_hold _ _ _ 0 [_, _] [] _
  refine ab_go ok_SF_hold 6 rfl ?_
  show ab_Z m_SF_hold _ _ _ 6 [_, _] [_, _, _] _
  refine ab_cl ok_SF_hold rfl [_, _, _] [] rfl ⟨_, _, rfl, rfl, Or.inl ⟨_, _, rfl, rfl⟩⟩ (Nat.le_of_ble_eq_true rfl) (t_Me_fillSlot d fm X s t x) ?_
  rintro _ _ ⟨rfl, rfl⟩
  show ab_Z m_SF_hold _ _ _ 7 [_, _] [_] _
  exact ab_rZ ok_SF_hold rfl (by first | decide | exact bB_01 _ | exact bI_01 _) (⟨rfl, rfl⟩)
theorem t_SF_restore (x : Int32) : ab_T g_SF_restore (d + 2) (0, 0) [.ref 0, .int x] (HA fm X s t) (fun v h => v = some (.int (bI (inR 3 x ∧ hbF (s 38 2) x = true))) ∧ h = HA fm X (if inR 3 x ∧ hbF (s 38 2) x = true then slT s x.toNatClampNeg else s) t) := by
  refine ab_T_of (M := m_SF_restore) rfl rfl (Nat.le_of_ble_eq_true rfl) ?_
  show ab_Z m_SF_restore _ _ _ 0 [_, _] [] _
  refine ab_go ok_SF_restore 6 rfl ?_
  show ab_Z m_SF_restore _ _ _ 6 [_, _] [_, _, _] _
  refine ab_cl ok_SF_restore rfl [_, _, _] [] rfl ⟨_, _, rfl, rfl, Or.inl ⟨_, _, rfl, rfl⟩⟩ (Nat.le_of_ble_eq_true rfl) (t_Me_takeSlot d fm X s t x) ?_
  rintro _ _ ⟨rfl, rfl⟩
  show ab_Z m_SF_restore _ _ _ 7 [_, _] [_] _
  exact ab_rZ ok_SF_restore rfl (by first | decide | exact bB_01 _ | exact bI_01 _) (⟨rfl, rfl⟩)
theorem t_SF_undo {w m : Nat} (hw : s 38 3 = nI w) (hw4 : w < 40) (hm : s 38 4 = nI m) (hm4 : m ≤ 40) : ab_T g_SF_undo (d + 2) (0, 0) [.ref 0] (HA fm X s t) (fun v h => v = some (.int (bB (decide (0 < m)))) ∧ h = HA fm X (if 0 < m then memB s w m else s) t) := by
  refine ab_T_of (M := m_SF_undo) rfl rfl (Nat.le_of_ble_eq_true rfl) ?_
  show ab_Z m_SF_undo _ _ _ 0 [_] [] _
  refine ab_go ok_SF_undo 5 rfl ?_
  show ab_Z m_SF_undo _ _ _ 5 [_] [_, _] _
  refine ab_cl ok_SF_undo rfl [_, _] [] rfl ⟨_, _, rfl, rfl, Or.inl ⟨_, _, rfl, rfl⟩⟩ (Nat.le_of_ble_eq_true rfl) (t_Me_recall d fm X s t hw hw4 hm hm4) ?_
  rintro _ _ ⟨rfl, rfl⟩
  show ab_Z m_SF_undo _ _ _ 6 [_] [_] _
  exact ab_rZ ok_SF_undo rfl (by first | decide | exact bB_01 _ | exact bI_01 _) (⟨rfl, rfl⟩)
end
/-- the scene changed behind a remembering -/
def Mm (s s' : Nat → Nat → Int32) (w m : Nat) (r : Nat → Int32) (n : Nat) : Prop := s' 11 = r ∧ s' 10 1 = s 10 1 + nI n ∧ s' 39 = va_cpy (s 11) (s 39) 0 (40 * w) 40 ∧ s' 38 3 = nI (if w + 1 < 40 then w + 1 else 0) ∧ s' 38 4 = nI (if m < 40 then m + 1 else 40) ∧ ∀ c k, scr1 c k = false → c ≠ 13 → c ≠ 11 → ¬ (c = 10 ∧ k = 1) → c ≠ 39 → ¬ (c = 38 ∧ (k = 3 ∨ k = 4)) → s' c k = s c k
theorem Mm.of {s s1 s' : Nat → Nat → Int32} {w m n : Nat} {r : Nat → Int32} (hk : Kp2 s s1) (h : Sn (memP s1 w m) s' r n) : Mm s s' w m r n := by
  obtain ⟨h1, h2, h3⟩ := h
  refine ⟨h1, ?_, ?_, ?_, ?_, fun c k a b e f g i => ?_⟩
  · rw [h2]; unfold memP
    rw [ab_up_o (by decide), ab_up_o (by decide), ab_ro_o (by decide), hk 10 1 rfl (by decide)]
  · funext k
    rw [h3 39 k rfl (by decide) (by decide) (by omega)]; unfold memP
    rw [ab_up_o (by decide), ab_up_o (by decide), ab_ro_c, hk.row (c := 11) (fun _ => rfl) (by decide), hk.row (c := 39) (fun _ => rfl) (by decide)]
  · rw [h3 38 3 rfl (by decide) (by decide) (by decide)]; unfold memP
    rw [ab_up_n (by decide), ab_up_s]
  · rw [h3 38 4 rfl (by decide) (by decide) (by decide)]; unfold memP
    rw [ab_up_s]
  · rw [h3 c k a b e f]; unfold memP
    by_cases hc : c = 38
    · subst hc
      rw [ab_up_n (fun z => i ⟨rfl, Or.inr z⟩), ab_up_n (fun z => i ⟨rfl, Or.inl z⟩), ab_ro_o (by decide)]
      exact hk 38 k a b
    · rw [ab_up_o hc, ab_up_o hc, ab_ro_o g]
      exact hk c k a b
theorem memP_k {s : Nat → Nat → Int32} {w m c k : Nat} (h9 : c ≠ 39) (h8 : c ≠ 38) : memP s w m c k = s c k := by
  unfold memP
  rw [ab_up_o h8, ab_up_o h8, ab_ro_o h9]
theorem fillR_cg {r : Nat → Int32} {a k : Nat} {g g' : Nat → Int32} (h : ∀ j, j < k → g j = g' j) : fillR r a k g = fillR r a k g' := by
  funext i
  unfold fillR
  split
  · exact h _ (by omega)
  · rfl
def sealR (s : Nat → Nat → Int32) (PT : List (List Ins)) (nd c e : Nat) : Nat → Int32 := upd (fillR (fillR (s 11) (3 * c) 3 (fun f => s 11 (3 * c + f) - TV s PT nd c e f)) (15 + 3 * e) 3 (TV s PT nd c e)) (33 + e) (nI c)
def forgR (s : Nat → Nat → Int32) (e : Nat) : Nat → Int32 := upd (fillR (s 11) (15 + 3 * e) 3 (fun f => s 20 (3 * e + f))) (33 + e) (-3)
def burnR (s : Nat → Nat → Int32) (e : Nat) : Nat → Int32 := upd (fillR (s 11) (15 + 3 * e) 3 (fun _ => 0)) (33 + e) (-2)
section
variable (d : Nat) (fm : Value) (X : Nat × (Nat → Int32)) (s : Nat → Nat → Int32) (t : Nat → Nat → Int64)
variable {nc nd nt : Nat} {PT PG PB PF : List (List Ins)}
abbrev PM (P : Prop) [Decidable P] (fm : Value) (X : Nat × (Nat → Int32)) (s : Nat → Nat → Int32) (t : Nat → Nat → Int64) (w m : Nat) (r : Nat → Int32) (n : Nat) : Option Value → ab_H → Prop := fun v h => v = some (.int (bI P)) ∧ ∃ s', h = HA fm X s' t ∧ (P → Mm s s' w m r n) ∧ (¬ P → Kp2 s s')
theorem t_SF_seal (hC : CI s nc nd nt PT PG PB PF) {w m : Nat} (hw : s 38 3 = nI w) (hw4 : w < 40) (hm : s 38 4 = nI m) (hm4 : m ≤ 40) (x y : Int32) : ab_T g_SF_seal (d + 5) (0, 0) [.ref 0, .int x, .int y] (HA fm X s t) (PM (inR nc x ∧ inR nd y ∧ canB s PT nd x.toNatClampNeg y.toNatClampNeg = true) fm X s t w m (sealR s PT nd x.toNatClampNeg y.toNatClampNeg) 7) := by
  have h5 : nc ≤ 5 := hC.1.2.1
  have h6 : nd ≤ 6 := hC.1.2.2.2.1
  refine ab_T_of (M := m_SF_seal) rfl rfl (Nat.le_of_ble_eq_true rfl) ?_
  show ab_Z m_SF_seal _ _ _ 0 [_, _, _] [] _
  refine ab_go ok_SF_seal 3 rfl ?_
  show ab_Z m_SF_seal _ _ _ 3 [_, _, _] [_, _] _
  refine ab_cl ok_SF_seal rfl [_, _] [] rfl ⟨_, _, rfl, rfl, Or.inl ⟨_, _, rfl, rfl⟩⟩ (Nat.le_of_ble_eq_true rfl) (t_Ha_isClerk' (d + 4) fm X s t hC.1 x) ?_
  rintro _ _ ⟨rfl, rfl⟩
  show ab_Z m_SF_seal _ _ _ 4 [_, _, _] [_] _
  refine ab_br ok_SF_seal rfl rfl ?_ ?_
  · intro h1
    show ab_Z m_SF_seal _ _ _ 16 [_, _, _] [] _
    refine ab_go ok_SF_seal 1 rfl ?_
    show ab_Z m_SF_seal _ _ _ 17 [_, _, _] [_] _
    have h3 : ¬ (inR nc x ∧ inR nd y ∧ canB s PT nd x.toNatClampNeg y.toNatClampNeg = true) := fun q => bI_0.mp h1 q.1
    exact ab_rZ ok_SF_seal rfl (by decide) (⟨by rw [bI_f h3], s, rfl, fun q => absurd q h3, fun _ => Kp2.rf s⟩)
  · intro h1
    show ab_Z m_SF_seal _ _ _ 5 [_, _, _] [] _
    refine ab_go ok_SF_seal 3 rfl ?_
    show ab_Z m_SF_seal _ _ _ 8 [_, _, _] [_, _] _
    refine ab_cl ok_SF_seal rfl [_, _] [] rfl ⟨_, _, rfl, rfl, Or.inl ⟨_, _, rfl, rfl⟩⟩ (Nat.le_of_ble_eq_true rfl) (t_Ha_isDeed' (d + 4) fm X s t hC.1 y) ?_
    rintro _ _ ⟨rfl, rfl⟩
    show ab_Z m_SF_seal _ _ _ 9 [_, _, _] [_] _
    refine ab_br ok_SF_seal rfl rfl ?_ ?_
    · intro h2
      show ab_Z m_SF_seal _ _ _ 16 [_, _, _] [] _
      refine ab_go ok_SF_seal 1 rfl ?_
      show ab_Z m_SF_seal _ _ _ 17 [_, _, _] [_] _
      have h3 : ¬ (inR nc x ∧ inR nd y ∧ canB s PT nd x.toNatClampNeg y.toNatClampNeg = true) := fun q => bI_0.mp h2 q.2.1
      exact ab_rZ ok_SF_seal rfl (by decide) (⟨by rw [bI_f h3], s, rfl, fun q => absurd q h3, fun _ => Kp2.rf s⟩)
    · intro h2
      show ab_Z m_SF_seal _ _ _ 10 [_, _, _] [] _
      have g1 := bI_n0 h1
      have g2 := bI_n0 h2
      clear h1 h2
      obtain ⟨c, hc, rfl⟩ := inR_nat g1
      obtain ⟨e, he, rfl⟩ := inR_nat g2
      rw [nI_c (n := c) (by omega), nI_c (n := e) (by omega)]
      refine ab_go ok_SF_seal 4 rfl ?_
      show ab_Z m_SF_seal _ _ _ 14 [_, _, _] [_, _, _] _
      refine ab_cl ok_SF_seal rfl [_, _, _] [] rfl ⟨_, _, rfl, rfl, Or.inl ⟨_, _, rfl, rfl⟩⟩ (Nat.le_of_ble_eq_true rfl) (t_Ha_canSeal d fm X s t hC.1.2.2.2.2.2.2.1 hC.1.2.2.1 h6 (show c < 5 by omega) he) ?_
      rintro _ _ ⟨rfl, s1, rfl, hk, hTV⟩
      show ab_Z m_SF_seal _ _ _ 15 [_, _, _] [_] _
      refine ab_br ok_SF_seal rfl rfl ?_ ?_
      · intro h3
        show ab_Z m_SF_seal _ _ _ 16 [_, _, _] [] _
        refine ab_go ok_SF_seal 1 rfl ?_
        show ab_Z m_SF_seal _ _ _ 17 [_, _, _] [_] _
        have h4 : ¬ (inR nc (nI c) ∧ inR nd (nI e) ∧ canB s PT nd c e = true) := fun q => by rw [bB_0.mp h3] at q; exact absurd q.2.2 (by decide)
        exact ab_rZ ok_SF_seal rfl (by decide) (⟨by rw [bI_f h4], s1, rfl, fun q => absurd q h4, fun _ => hk⟩)
      · intro h3
        show ab_Z m_SF_seal _ _ _ 18 [_, _, _] [] _
        have h4 : inR nc (nI c) ∧ inR nd (nI e) ∧ canB s PT nd c e = true := ⟨g1, g2, bB_n0 h3⟩
        refine ab_go ok_SF_seal 5 rfl ?_
        show ab_Z m_SF_seal _ _ _ 23 [_, _, _] [_, _] _
        refine ab_cl ok_SF_seal rfl [_, _] [] rfl ⟨_, _, rfl, rfl, Or.inl ⟨_, _, rfl, rfl⟩⟩ (Nat.le_of_ble_eq_true rfl) (t_Me_remember (d + 3) fm X s1 t ((hk 38 3 rfl (by decide)).trans hw) hw4 ((hk 38 4 rfl (by decide)).trans hm) hm4) ?_
        rintro _ _ ⟨rfl, rfl⟩
        show ab_Z m_SF_seal _ _ _ 24 [_, _, _] [] _
        refine ab_go ok_SF_seal 4 rfl ?_
        show ab_Z m_SF_seal _ _ _ 28 [_, _, _] [_, _, _] _
        refine ab_cl ok_SF_seal rfl [_, _, _] [] rfl ⟨_, _, rfl, rfl, Or.inl ⟨_, _, rfl, rfl⟩⟩ (Nat.le_of_ble_eq_true rfl) (t_Ha_putSeal (d + 2) fm X _ t (show c < 5 by omega) (show e < 6 by omega)) ?_
        rintro _ _ ⟨rfl, s2, rfl, _, hs2⟩
        show ab_Z m_SF_seal _ _ _ 29 [_, _, _] [] _
        refine ab_go ok_SF_seal 1 rfl ?_
        show ab_Z m_SF_seal _ _ _ 30 [_, _, _] [_] _
        have e11 : memP s1 w m 11 = s 11 := funext fun k => (memP_k (by decide) (by decide)).trans (hk 11 k rfl (by decide))
        have e13 : ∀ f, f < 3 → memP s1 w m 13 f = TV s PT nd c e f := fun f hf => (memP_k (by decide) (by decide)).trans (hTV f hf)
        rw [e11, fillR_cg (g := memP s1 w m 13) (g' := TV s PT nd c e) e13, fillR_cg (g := fun f => s 11 (3 * c + f) - memP s1 w m 13 f) (g' := fun f => s 11 (3 * c + f) - TV s PT nd c e f) (fun f hf => by rw [e13 f hf])] at hs2
        exact ab_rZ ok_SF_seal rfl (by decide) (⟨by rw [bI_t h4], s2, rfl, fun _ => Mm.of hk hs2, fun q => absurd h4 q⟩)
theorem t_SF_forge (hC : CI s nc nd nt PT PG PB PF) {w m : Nat} (hw : s 38 3 = nI w) (hw4 : w < 40) (hm : s 38 4 = nI m) (hm4 : m ≤ 40) (y : Int32) : ab_T g_SF_forge (d + 3) (0, 0) [.ref 0, .int y] (HA fm X s t) (PM (inR nd y ∧ openB s y.toNatClampNeg = true) fm X s t w m (forgR s y.toNatClampNeg) 4) := by
  have h6 : nd ≤ 6 := hC.1.2.2.2.1
  refine ab_T_of (M := m_SF_forge) rfl rfl (Nat.le_of_ble_eq_true rfl) ?_
  show ab_Z m_SF_forge _ _ _ 0 [_, _] [] _
  refine ab_go ok_SF_forge 3 rfl ?_
  show ab_Z m_SF_forge _ _ _ 3 [_, _] [_, _] _
  refine ab_cl ok_SF_forge rfl [_, _] [] rfl ⟨_, _, rfl, rfl, Or.inl ⟨_, _, rfl, rfl⟩⟩ (Nat.le_of_ble_eq_true rfl) (t_Ha_isOpen (d + 1) fm X s t y hC.1.2.2.1 h6) ?_
  rintro _ _ ⟨rfl, rfl⟩
  show ab_Z m_SF_forge _ _ _ 4 [_, _] [_] _
  refine ab_br ok_SF_forge rfl rfl ?_ ?_
  · intro h1
    show ab_Z m_SF_forge _ _ _ 5 [_, _] [] _
    refine ab_go ok_SF_forge 1 rfl ?_
    show ab_Z m_SF_forge _ _ _ 6 [_, _] [_] _
    have h3 : ¬ (inR nd y ∧ openB s y.toNatClampNeg = true) := fun q => bI_0.mp h1 ⟨q.1, of_decide_eq_true q.2⟩
    exact ab_rZ ok_SF_forge rfl (by decide) (⟨by rw [bI_f h3], s, rfl, fun q => absurd q h3, fun _ => Kp2.rf s⟩)
  · intro h1
    show ab_Z m_SF_forge _ _ _ 7 [_, _] [] _
    have g1 := bI_n0 h1
    clear h1
    obtain ⟨e, he, rfl⟩ := inR_nat g1.1
    rw [nI_c (n := e) (by omega)] at g1 ⊢
    have h4 : inR nd (nI e) ∧ openB s e = true := ⟨g1.1, decide_eq_true g1.2⟩
    refine ab_go ok_SF_forge 5 rfl ?_
    show ab_Z m_SF_forge _ _ _ 12 [_, _] [_, _] _
    refine ab_cl ok_SF_forge rfl [_, _] [] rfl ⟨_, _, rfl, rfl, Or.inl ⟨_, _, rfl, rfl⟩⟩ (Nat.le_of_ble_eq_true rfl) (t_Me_remember (d + 1) fm X s t hw hw4 hm hm4) ?_
    rintro _ _ ⟨rfl, rfl⟩
    show ab_Z m_SF_forge _ _ _ 13 [_, _] [] _
    refine ab_go ok_SF_forge 3 rfl ?_
    show ab_Z m_SF_forge _ _ _ 16 [_, _] [_, _] _
    refine ab_cl ok_SF_forge rfl [_, _] [] rfl ⟨_, _, rfl, rfl, Or.inl ⟨_, _, rfl, rfl⟩⟩ (Nat.le_of_ble_eq_true rfl) (t_Ha_putForgery d fm X _ t (show e < 6 by omega)) ?_
    rintro _ _ ⟨rfl, s2, rfl, hs2⟩
    show ab_Z m_SF_forge _ _ _ 17 [_, _] [] _
    refine ab_go ok_SF_forge 1 rfl ?_
    show ab_Z m_SF_forge _ _ _ 18 [_, _] [_] _
    rw [show memP s w m 11 = s 11 from funext fun k => memP_k (by decide) (by decide), show memP s w m 20 = s 20 from funext fun k => memP_k (by decide) (by decide)] at hs2
    exact ab_rZ ok_SF_forge rfl (by decide) (⟨by rw [bI_t h4], s2, rfl, fun _ => Mm.of (Kp2.rf s) hs2, fun q => absurd h4 q⟩)
theorem t_SF_burn (hC : CI s nc nd nt PT PG PB PF) {w m : Nat} (hw : s 38 3 = nI w) (hw4 : w < 40) (hm : s 38 4 = nI m) (hm4 : m ≤ 40) (y : Int32) : ab_T g_SF_burn (d + 3) (0, 0) [.ref 0, .int y] (HA fm X s t) (PM (inR nd y ∧ openB s y.toNatClampNeg = false) fm X s t w m (burnR s y.toNatClampNeg) 4) := by
  have h6 : nd ≤ 6 := hC.1.2.2.2.1
  refine ab_T_of (M := m_SF_burn) rfl rfl (Nat.le_of_ble_eq_true rfl) ?_
  show ab_Z m_SF_burn _ _ _ 0 [_, _] [] _
  refine ab_go ok_SF_burn 3 rfl ?_
  show ab_Z m_SF_burn _ _ _ 3 [_, _] [_, _] _
  refine ab_cl ok_SF_burn rfl [_, _] [] rfl ⟨_, _, rfl, rfl, Or.inl ⟨_, _, rfl, rfl⟩⟩ (Nat.le_of_ble_eq_true rfl) (t_Ha_isDeed' (d + 2) fm X s t hC.1 y) ?_
  rintro _ _ ⟨rfl, rfl⟩
  show ab_Z m_SF_burn _ _ _ 4 [_, _] [_] _
  refine ab_br ok_SF_burn rfl rfl ?_ ?_
  · intro h1
    show ab_Z m_SF_burn _ _ _ 10 [_, _] [] _
    refine ab_go ok_SF_burn 1 rfl ?_
    show ab_Z m_SF_burn _ _ _ 11 [_, _] [_] _
    have h3 : ¬ (inR nd y ∧ openB s y.toNatClampNeg = false) := fun q => bI_0.mp h1 q.1
    exact ab_rZ ok_SF_burn rfl (by decide) (⟨by rw [bI_f h3], s, rfl, fun q => absurd q h3, fun _ => Kp2.rf s⟩)
  · intro h1
    show ab_Z m_SF_burn _ _ _ 5 [_, _] [] _
    have g1 := bI_n0 h1
    clear h1
    refine ab_go ok_SF_burn 3 rfl ?_
    show ab_Z m_SF_burn _ _ _ 8 [_, _] [_, _] _
    refine ab_cl ok_SF_burn rfl [_, _] [] rfl ⟨_, _, rfl, rfl, Or.inl ⟨_, _, rfl, rfl⟩⟩ (Nat.le_of_ble_eq_true rfl) (t_Ha_isOpen (d + 1) fm X s t y hC.1.2.2.1 h6) ?_
    rintro _ _ ⟨rfl, rfl⟩
    show ab_Z m_SF_burn _ _ _ 9 [_, _] [_] _
    obtain ⟨e, he, rfl⟩ := inR_nat g1
    rw [nI_c (n := e) (by omega)]
    refine ab_br ok_SF_burn rfl rfl ?_ ?_
    · intro h1
      show ab_Z m_SF_burn _ _ _ 12 [_, _] [] _
      have h2 := bI_0.mp h1
      have h4 : inR nd (nI e) ∧ openB s e = false := ⟨g1, decide_eq_false (fun z => h2 ⟨g1, z⟩)⟩
      refine ab_go ok_SF_burn 5 rfl ?_
      show ab_Z m_SF_burn _ _ _ 17 [_, _] [_, _] _
      refine ab_cl ok_SF_burn rfl [_, _] [] rfl ⟨_, _, rfl, rfl, Or.inl ⟨_, _, rfl, rfl⟩⟩ (Nat.le_of_ble_eq_true rfl) (t_Me_remember (d + 1) fm X s t hw hw4 hm hm4) ?_
      rintro _ _ ⟨rfl, rfl⟩
      show ab_Z m_SF_burn _ _ _ 18 [_, _] [] _
      refine ab_go ok_SF_burn 3 rfl ?_
      show ab_Z m_SF_burn _ _ _ 21 [_, _] [_, _] _
      refine ab_cl ok_SF_burn rfl [_, _] [] rfl ⟨_, _, rfl, rfl, Or.inl ⟨_, _, rfl, rfl⟩⟩ (Nat.le_of_ble_eq_true rfl) (t_Ha_putOpen d fm X _ t (show e < 6 by omega)) ?_
      rintro _ _ ⟨rfl, s2, rfl, hs2⟩
      show ab_Z m_SF_burn _ _ _ 22 [_, _] [] _
      refine ab_go ok_SF_burn 1 rfl ?_
      show ab_Z m_SF_burn _ _ _ 23 [_, _] [_] _
      rw [show memP s w m 11 = s 11 from funext fun k => memP_k (by decide) (by decide)] at hs2
      exact ab_rZ ok_SF_burn rfl (by decide) (⟨by rw [bI_t h4], s2, rfl, fun _ => Mm.of (Kp2.rf s) hs2, fun q => absurd h4 q⟩)
    · intro h1
      show ab_Z m_SF_burn _ _ _ 10 [_, _] [] _
      have h2 := bI_n0 h1
      have h4 : ¬ (inR nd (nI e) ∧ openB s e = false) := fun q => by rw [openB, decide_eq_true h2.2] at q; exact absurd q.2 (by decide)
      refine ab_go ok_SF_burn 1 rfl ?_
      show ab_Z m_SF_burn _ _ _ 11 [_, _] [_] _
      exact ab_rZ ok_SF_burn rfl (by decide) (⟨by rw [bI_f h4], s, rfl, fun q => absurd q h4, fun _ => Kp2.rf s⟩)
end

