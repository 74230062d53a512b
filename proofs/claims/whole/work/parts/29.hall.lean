def heldB (s : Nat → Nat → Int32) (k : Nat) : Bool := !decide (s 11 (33 + (s 21 (2 * k)).toNatClampNeg) < 0) && (!decide (s 11 (33 + (s 21 (2 * k + 1)).toNatClampNeg) < 0) && !decide (s 11 (33 + (s 21 (2 * k)).toNatClampNeg) = s 11 (33 + (s 21 (2 * k + 1)).toNatClampNeg)))
theorem heldB_kp {s s' : Nat → Nat → Int32} (h : Kp2 s s') (k : Nat) : heldB s' k = heldB s k := by
  unfold heldB
  rw [h 21 _ rfl (by decide), h 21 _ rfl (by decide), h 11 _ rfl (by decide), h 11 _ rfl (by decide)]
def cntN (p : Nat → Bool) : Nat → Nat
  | 0 => 0
  | n + 1 => cntN p n + if p n then 1 else 0
theorem cntN_cg {p q : Nat → Bool} : ∀ {n : Nat}, (∀ k, k < n → p k = q k) → cntN p n = cntN q n
  | 0, _ => rfl
  | n + 1, h => by rw [cntN, cntN, cntN_cg (fun k hk => h k (by omega)), h n (by omega)]
theorem bitsN_0 {p : Nat → Bool} : ∀ {n : Nat}, (∀ k, k < n → p k = false) → bitsN p n = 0
  | 0, _ => rfl
  | n + 1, h => by rw [bitsN, bitsN_0 (fun k hk => h k (by omega)), h n (by omega)]; rfl
theorem enB_op {s : Nat → Nat → Int32} {P : List (List Ins)} {nd c e : Nat} (h : decide (s 11 (33 + e) = -2) = false) : ∀ k, enB s P nd c e k = false
  | 0 => h
  | k + 1 => by rw [enB, enB_op h k]; rfl
theorem canB_op {s : Nat → Nat → Int32} {P : List (List Ins)} {nd c e : Nat} (h : decide (s 11 (33 + e) = -2) = false) : canB s P nd c e = false := by
  unfold canB
  rw [enB_op h]; rfl
section
variable (d : Nat) (fm : Value) (X : Nat × (Nat → Int32)) (s : Nat → Nat → Int32) (t : Nat → Nat → Int64)
theorem t_Ha_isHeld {nc nd nt k : Nat} (hn : s 14 12 = nI nd) (hn6 : nd ≤ 6) (ht6 : nt ≤ 6) (hI : SI s nc nd nt) (hk : k < nt) : ab_T g_Ha_isHeld (d + 2) (0, 0) [.ref 9, .int (nI k)] (HA fm X s t) (PI (bB (heldB s k)) (HA fm X s t)) := by
  obtain ⟨e0, h0, g0⟩ := hI.2 k hk 0 (by decide)
  obtain ⟨e1, h1, g1⟩ := hI.2 k hk 1 (by decide)
  have eh : heldB s k = (!decide (s 11 (33 + e0) < 0) && (!decide (s 11 (33 + e1) < 0) && !decide (s 11 (33 + e0) = s 11 (33 + e1)))) := by
    unfold heldB
    rw [Nat.add_zero] at g0
    rw [g0, g1, nI_c (by omega), nI_c (by omega)]
  rw [eh]
  refine ab_T_of (M := m_Ha_isHeld) rfl rfl (Nat.le_of_ble_eq_true rfl) ?_
  show ab_Z m_Ha_isHeld _ _ _ 0 [_, _, _, _] [] _
  refine ab_go ok_Ha_isHeld 4 rfl ?_
  show ab_Z m_Ha_isHeld _ _ _ 4 [_, _, _, _] [_, _, _] _
  refine ab_cl ok_Ha_isHeld rfl [_, _, _] [] rfl ⟨_, _, rfl, rfl, Or.inl ⟨_, _, rfl, rfl⟩⟩ (Nat.le_of_ble_eq_true rfl) (t_Te_treatyDeed d fm X s t (show k < 6 by omega) (show 0 < 2 by decide)) ?_
  rintro _ _ ⟨rfl, rfl⟩
  show ab_Z m_Ha_isHeld _ _ _ 5 [_, _, _, _] [_] _
  rw [g0]
  refine ab_go ok_Ha_isHeld 5 rfl ?_
  show ab_Z m_Ha_isHeld _ _ _ 10 [_, _, _, _] [_, _, _] _
  refine ab_cl ok_Ha_isHeld rfl [_, _, _] [] rfl ⟨_, _, rfl, rfl, Or.inl ⟨_, _, rfl, rfl⟩⟩ (Nat.le_of_ble_eq_true rfl) (t_Te_treatyDeed d fm X s t (show k < 6 by omega) (show 1 < 2 by decide)) ?_
  rintro _ _ ⟨rfl, rfl⟩
  show ab_Z m_Ha_isHeld _ _ _ 11 [_, _, _, _] [_] _
  rw [g1]
  refine ab_go ok_Ha_isHeld 3 rfl ?_
  show ab_Z m_Ha_isHeld _ _ _ 14 [_, _, _, _] [_, _] _
  refine ab_cl ok_Ha_isHeld rfl [_, _] [] rfl ⟨_, _, rfl, rfl, Or.inl ⟨_, _, rfl, rfl⟩⟩ (Nat.le_of_ble_eq_true rfl) (t_Ha_isSealed d fm X s t h0 hn hn6) ?_
  rintro _ _ ⟨rfl, rfl⟩
  show ab_Z m_Ha_isHeld _ _ _ 15 [_, _, _, _] [_] _
  refine ab_br ok_Ha_isHeld rfl rfl ?_ ?_
  · intro q1
    show ab_Z m_Ha_isHeld _ _ _ 31 [_, _, _, _] [] _
    refine ab_go ok_Ha_isHeld 1 rfl ?_
    show ab_Z m_Ha_isHeld _ _ _ 32 [_, _, _, _] [_] _
    have q1 := bB_0.mp q1
    exact ab_rZ ok_Ha_isHeld rfl (by decide) (⟨by rw [q1]; rfl, rfl⟩)
  · intro q1
    show ab_Z m_Ha_isHeld _ _ _ 16 [_, _, _, _] [] _
    have q1 := bB_n0 q1
    rw [q1]
    refine ab_go ok_Ha_isHeld 2 rfl ?_
    show ab_Z m_Ha_isHeld _ _ _ 18 [_, _, _, _] [_, _] _
    refine ab_cl ok_Ha_isHeld rfl [_, _] [] rfl ⟨_, _, rfl, rfl, Or.inl ⟨_, _, rfl, rfl⟩⟩ (Nat.le_of_ble_eq_true rfl) (t_Ha_isSealed d fm X s t h1 hn hn6) ?_
    rintro _ _ ⟨rfl, rfl⟩
    show ab_Z m_Ha_isHeld _ _ _ 19 [_, _, _, _] [_] _
    refine ab_br ok_Ha_isHeld rfl rfl ?_ ?_
    · intro q2
      show ab_Z m_Ha_isHeld _ _ _ 31 [_, _, _, _] [] _
      refine ab_go ok_Ha_isHeld 1 rfl ?_
      show ab_Z m_Ha_isHeld _ _ _ 32 [_, _, _, _] [_] _
      have q2 := bB_0.mp q2
      exact ab_rZ ok_Ha_isHeld rfl (by decide) (⟨by rw [q2]; rfl, rfl⟩)
    · intro q2
      show ab_Z m_Ha_isHeld _ _ _ 20 [_, _, _, _] [] _
      have q2 := bB_n0 q2
      rw [q2]
      refine ab_go ok_Ha_isHeld 3 rfl ?_
      show ab_Z m_Ha_isHeld _ _ _ 23 [_, _, _, _] [_, _] _
      refine ab_cl ok_Ha_isHeld rfl [_, _] [] rfl ⟨_, _, rfl, rfl, Or.inl ⟨_, _, rfl, rfl⟩⟩ (Nat.le_of_ble_eq_true rfl) (t_Sc_sealerOf (d + 1) fm X s t (show e0 < 6 by omega)) ?_
      rintro _ _ ⟨rfl, rfl⟩
      show ab_Z m_Ha_isHeld _ _ _ 24 [_, _, _, _] [_] _
      refine ab_go ok_Ha_isHeld 3 rfl ?_
      show ab_Z m_Ha_isHeld _ _ _ 27 [_, _, _, _] [_, _, _] _
      refine ab_cl ok_Ha_isHeld rfl [_, _] [_] rfl ⟨_, _, rfl, rfl, Or.inl ⟨_, _, rfl, rfl⟩⟩ (Nat.le_of_ble_eq_true rfl) (t_Sc_sealerOf (d + 1) fm X s t (show e1 < 6 by omega)) ?_
      rintro _ _ ⟨rfl, rfl⟩
      show ab_Z m_Ha_isHeld _ _ _ 28 [_, _, _, _] [_, _] _
      refine ab_br ok_Ha_isHeld rfl rfl ?_ ?_
      · intro q3
        show ab_Z m_Ha_isHeld _ _ _ 31 [_, _, _, _] [] _
        refine ab_go ok_Ha_isHeld 1 rfl ?_
        show ab_Z m_Ha_isHeld _ _ _ 32 [_, _, _, _] [_] _
        exact ab_rZ ok_Ha_isHeld rfl (by decide) (⟨by rw [decide_eq_true q3]; rfl, rfl⟩)
      · intro q3
        show ab_Z m_Ha_isHeld _ _ _ 29 [_, _, _, _] [] _
        refine ab_go ok_Ha_isHeld 2 rfl ?_
        show ab_Z m_Ha_isHeld _ _ _ 32 [_, _, _, _] [_] _
        exact ab_rZ ok_Ha_isHeld rfl (by decide) (⟨by rw [decide_eq_false q3]; rfl, rfl⟩)
theorem t_Ha_treatiesHeld {nc nd nt : Nat} (hn : s 14 12 = nI nd) (hn6 : nd ≤ 6) (hnt : s 14 13 = nI nt) (ht6 : nt ≤ 6) (hI : SI s nc nd nt) : ab_T g_Ha_treatiesHeld (d + 3) (0, 0) [.ref 9] (HA fm X s t) (PI (nI (cntN (heldB s) nt)) (HA fm X s t)) := by
  refine ab_T_of (M := m_Ha_treatiesHeld) rfl rfl (Nat.le_of_ble_eq_true rfl) ?_
  show ab_Z m_Ha_treatiesHeld _ _ _ 0 [_, _, _] [] _
  refine ab_go ok_Ha_treatiesHeld 4 rfl ?_
  show ab_Z m_Ha_treatiesHeld _ _ _ 4 [_, _, _] [] _
  refine lp_dn nt (fun k => ab_Z m_Ha_treatiesHeld (d + 3) (0, 0) (PI (nI (cntN (heldB s) nt)) (HA fm X s t)) 4 [some (.ref 9), some (.int (nI (cntN (heldB s) k))), some (.int (nI k))] [] (HA fm X s t)) ?_ ?_
  · refine ab_go ok_Ha_treatiesHeld 4 rfl ?_
    show ab_Z m_Ha_treatiesHeld _ _ _ 8 [_, _, _] [_, _] _
    rw [hnt]
    refine ab_br ok_Ha_treatiesHeld rfl rfl ?_ ?_
    · intro h1
      show ab_Z m_Ha_treatiesHeld _ _ _ 16 [_, _, _] [] _
      refine ab_go ok_Ha_treatiesHeld 1 rfl ?_
      show ab_Z m_Ha_treatiesHeld _ _ _ 17 [_, _, _] [_] _
      exact ab_rI ok_Ha_treatiesHeld rfl (⟨rfl, rfl⟩)
    · intro h1
      show ab_Z m_Ha_treatiesHeld _ _ _ 9 [_, _, _] [] _
      exact absurd (lp_out nt) h1
  · intro k hkn ih
    refine ab_go ok_Ha_treatiesHeld 4 rfl ?_
    show ab_Z m_Ha_treatiesHeld _ _ _ 8 [_, _, _] [_, _] _
    rw [hnt]
    refine ab_br ok_Ha_treatiesHeld rfl rfl ?_ ?_
    · intro h1
      show ab_Z m_Ha_treatiesHeld _ _ _ 16 [_, _, _] [] _
      exact absurd h1 (lp_in (by omega) hkn)
    · intro h1
      show ab_Z m_Ha_treatiesHeld _ _ _ 9 [_, _, _] [] _
      refine ab_go ok_Ha_treatiesHeld 2 rfl ?_
      show ab_Z m_Ha_treatiesHeld _ _ _ 11 [_, _, _] [_, _] _
      refine ab_cl ok_Ha_treatiesHeld rfl [_, _] [] rfl ⟨_, _, rfl, rfl, Or.inl ⟨_, _, rfl, rfl⟩⟩ (Nat.le_of_ble_eq_true rfl) (t_Ha_isHeld d fm X s t hn hn6 ht6 hI hkn) ?_
      rintro _ _ ⟨rfl, rfl⟩
      show ab_Z m_Ha_treatiesHeld _ _ _ 12 [_, _, _] [_] _
      refine ab_br ok_Ha_treatiesHeld rfl rfl ?_ ?_
      · intro h2
        show ab_Z m_Ha_treatiesHeld _ _ _ 14 [_, _, _] [] _
        refine ab_go ok_Ha_treatiesHeld 2 rfl ?_
        show ab_Z m_Ha_treatiesHeld _ _ _ 4 [_, _, _] [] _
        rw [cntN, bB_0.mp h2, nI_succ] at ih
        exact ih
      · intro h2
        show ab_Z m_Ha_treatiesHeld _ _ _ 13 [_, _, _] [] _
        refine ab_go ok_Ha_treatiesHeld 3 rfl ?_
        show ab_Z m_Ha_treatiesHeld _ _ _ 4 [_, _, _] [] _
        rw [cntN, bB_n0 h2, nI_succ] at ih
        rw [← nI_succ (cntN (heldB s) k)]
        exact ih
theorem t_Ha_treatyBinds {PB PF : List (List Ins)} (hB : CLaw s 30 PB) (hF : CLaw s 34 PF) {nc nd nt k : Nat} (hn : s 14 12 = nI nd) (hn6 : nd ≤ 6) (ht6 : nt ≤ 6) (hc5 : nc ≤ 5) (hI : SI s nc nd nt) (hk : k < nt) : ab_T g_Ha_treatyBinds (d + 6) (0, 0) [.ref 9, .int (nI k)] (HA fm X s t) (PK (if bdV s PB PF nd (s 21 (2 * k + 1)).toNatClampNeg 0 < bdV s PB PF nd (s 21 (2 * k)).toNatClampNeg 0 then bdV s PB PF nd (s 21 (2 * k + 1)).toNatClampNeg 0 else bdV s PB PF nd (s 21 (2 * k)).toNatClampNeg 0) fm X s t) := by
  obtain ⟨e0, h0, g0⟩ := hI.2 k hk 0 (by decide)
  obtain ⟨e1, h1, g1⟩ := hI.2 k hk 1 (by decide)
  rw [Nat.add_zero] at g0
  rw [g0, g1, nI_c (by omega), nI_c (by omega)]
  refine ab_T_of (M := m_Ha_treatyBinds) rfl rfl (Nat.le_of_ble_eq_true rfl) ?_
  show ab_Z m_Ha_treatyBinds _ _ _ 0 [_, _] [] _
  refine ab_go ok_Ha_treatyBinds 5 rfl ?_
  show ab_Z m_Ha_treatyBinds _ _ _ 5 [_, _] [_, _, _, _] _
  refine ab_cl ok_Ha_treatyBinds rfl [_, _, _] [_] rfl ⟨_, _, rfl, rfl, Or.inl ⟨_, _, rfl, rfl⟩⟩ (Nat.le_of_ble_eq_true rfl) (t_Te_treatyDeed (d + 4) fm X s t (show k < 6 by omega) (show 0 < 2 by decide)) ?_
  rintro _ _ ⟨rfl, rfl⟩
  show ab_Z m_Ha_treatyBinds _ _ _ 6 [_, _] [_, _] _
  rw [show s 21 (2 * k + 0) = nI e0 from g0]
  refine ab_go ok_Ha_treatyBinds 1 rfl ?_
  show ab_Z m_Ha_treatyBinds _ _ _ 7 [_, _] [_, _, _] _
  refine ab_cl ok_Ha_treatyBinds rfl [_, _, _] [] rfl ⟨_, _, rfl, rfl, Or.inl ⟨_, _, rfl, rfl⟩⟩ (Nat.le_of_ble_eq_true rfl) (t_Ha_bindsAfter d fm X s t hB hF hn hn6 hc5 hI h0 (show 0 < 1000 by decide)) ?_
  rintro _ _ ⟨rfl, s1, rfl, hk1⟩
  show ab_Z m_Ha_treatyBinds _ _ _ 8 [_, _] [_] _
  refine ab_go ok_Ha_treatyBinds 5 rfl ?_
  show ab_Z m_Ha_treatyBinds _ _ _ 13 [_, _] [_, _, _, _, _] _
  refine ab_cl ok_Ha_treatyBinds rfl [_, _, _] [_, _] rfl ⟨_, _, rfl, rfl, Or.inl ⟨_, _, rfl, rfl⟩⟩ (Nat.le_of_ble_eq_true rfl) (t_Te_treatyDeed (d + 4) fm X s1 t (show k < 6 by omega) (show 1 < 2 by decide)) ?_
  rintro _ _ ⟨rfl, rfl⟩
  show ab_Z m_Ha_treatyBinds _ _ _ 14 [_, _] [_, _, _] _
  rw [hk1 21 _ rfl, g1]
  refine ab_go ok_Ha_treatyBinds 1 rfl ?_
  show ab_Z m_Ha_treatyBinds _ _ _ 15 [_, _] [_, _, _, _] _
  refine ab_cl ok_Ha_treatyBinds rfl [_, _, _] [_] rfl ⟨_, _, rfl, rfl, Or.inl ⟨_, _, rfl, rfl⟩⟩ (Nat.le_of_ble_eq_true rfl) (t_Ha_bindsAfter d fm X s1 t (CLaw_kp (by simp) hk1.to2 hB) (CLaw_kp (by simp) hk1.to2 hF) ((hk1 14 12 rfl).trans hn) hn6 hc5 (hI.kp hk1.to2) h1 (show 0 < 1000 by decide)) ?_
  rintro _ _ ⟨rfl, s2, rfl, hk2⟩
  show ab_Z m_Ha_treatyBinds _ _ _ 16 [_, _] [_, _] _
  rw [bdV_kp hk1.to2]
  refine ab_cl ok_Ha_treatyBinds rfl [_, _] [] rfl rfl (Nat.le_of_ble_eq_true rfl) (t_JM_min (d + 5) _ _ _) ?_
  rintro _ _ ⟨rfl, rfl⟩
  show ab_Z m_Ha_treatyBinds _ _ _ 17 [_, _] [_] _
  exact ab_rI ok_Ha_treatyBinds rfl (⟨rfl, s2, rfl, hk1.tr hk2⟩)
theorem t_Ha_clerksFor {P : List (List Ins)} (hL : CLaw s 22 P) {nc nd e : Nat} (hnc : s 14 11 = nI nc) (hc5 : nc ≤ 5) (hn : s 14 12 = nI nd) (hn6 : nd ≤ 6) (he : e < nd) : ab_T g_Ha_clerksFor (d + 5) (0, 0) [.ref 9, .int (nI e)] (HA fm X s t) (P2 (nI (bitsN (fun c => canB s P nd c e) nc)) fm X s t) := by
  refine ab_T_of (M := m_Ha_clerksFor) rfl rfl (Nat.le_of_ble_eq_true rfl) ?_
  show ab_Z m_Ha_clerksFor _ _ _ 0 [_, _, _, _] [] _
  refine ab_go ok_Ha_clerksFor 4 rfl ?_
  show ab_Z m_Ha_clerksFor _ _ _ 4 [_, _, _, _] [] _
  refine lp_dn nc (fun k => ∀ s1, Kp2 s s1 → ab_Z m_Ha_clerksFor (d + 5) (0, 0) (P2 (nI (bitsN (fun c => canB s P nd c e) nc)) fm X s t) 4 [some (.ref 9), some (.int (nI e)), some (.int (nI (bitsN (fun c => canB s P nd c e) k))), some (.int (nI k))] [] (HA fm X s1 t)) ?_ ?_ s (Kp2.rf s)
  · intro s1 hk
    refine ab_go ok_Ha_clerksFor 4 rfl ?_
    show ab_Z m_Ha_clerksFor _ _ _ 8 [_, _, _, _] [_, _] _
    rw [(hk 14 11 rfl (by decide)).trans hnc]
    refine ab_br ok_Ha_clerksFor rfl rfl ?_ ?_
    · intro h1
      show ab_Z m_Ha_clerksFor _ _ _ 26 [_, _, _, _] [] _
      refine ab_go ok_Ha_clerksFor 1 rfl ?_
      show ab_Z m_Ha_clerksFor _ _ _ 27 [_, _, _, _] [_] _
      exact ab_rI ok_Ha_clerksFor rfl (⟨rfl, s1, rfl, hk⟩)
    · intro h1
      show ab_Z m_Ha_clerksFor _ _ _ 9 [_, _, _, _] [] _
      exact absurd (lp_out nc) h1
  · intro k hkn ih s1 hk
    refine ab_go ok_Ha_clerksFor 4 rfl ?_
    show ab_Z m_Ha_clerksFor _ _ _ 8 [_, _, _, _] [_, _] _
    rw [(hk 14 11 rfl (by decide)).trans hnc]
    refine ab_br ok_Ha_clerksFor rfl rfl ?_ ?_
    · intro h1
      show ab_Z m_Ha_clerksFor _ _ _ 26 [_, _, _, _] [] _
      exact absurd h1 (lp_in (by omega) hkn)
    · intro h1
      show ab_Z m_Ha_clerksFor _ _ _ 9 [_, _, _, _] [] _
      refine ab_go ok_Ha_clerksFor 2 rfl ?_
      show ab_Z m_Ha_clerksFor _ _ _ 11 [_, _, _, _] [_, _] _
      refine ab_cl ok_Ha_clerksFor rfl [_, _] [] rfl ⟨_, _, rfl, rfl, Or.inl ⟨_, _, rfl, rfl⟩⟩ (Nat.le_of_ble_eq_true rfl) (t_Ha_isOpen' (d + 3) fm X s1 t he ((hk 14 12 rfl (by decide)).trans hn) hn6) ?_
      rintro _ _ ⟨rfl, rfl⟩
      show ab_Z m_Ha_clerksFor _ _ _ 12 [_, _, _, _] [_] _
      rw [hk 11 _ rfl (by decide)]
      refine ab_br ok_Ha_clerksFor rfl rfl ?_ ?_
      · intro h2
        show ab_Z m_Ha_clerksFor _ _ _ 26 [_, _, _, _] [] _
        have h2 := bB_0.mp h2
        refine ab_go ok_Ha_clerksFor 1 rfl ?_
        show ab_Z m_Ha_clerksFor _ _ _ 27 [_, _, _, _] [_] _
        exact ab_rI ok_Ha_clerksFor rfl (⟨by rw [bitsN_0 (fun c _ => canB_op h2), bitsN_0 (fun c _ => canB_op h2)], s1, rfl, hk⟩)
      · intro h2
        show ab_Z m_Ha_clerksFor _ _ _ 13 [_, _, _, _] [] _
        refine ab_go ok_Ha_clerksFor 3 rfl ?_
        show ab_Z m_Ha_clerksFor _ _ _ 16 [_, _, _, _] [_, _, _] _
        refine ab_cl ok_Ha_clerksFor rfl [_, _, _] [] rfl ⟨_, _, rfl, rfl, Or.inl ⟨_, _, rfl, rfl⟩⟩ (Nat.le_of_ble_eq_true rfl) (t_Ha_canSeal d fm X s1 t (CLaw_kp (by simp) hk hL) ((hk 14 12 rfl (by decide)).trans hn) hn6 (show k < 5 by omega) he) ?_
        rintro _ _ ⟨rfl, s2, rfl, hk2, -⟩
        show ab_Z m_Ha_clerksFor _ _ _ 17 [_, _, _, _] [_] _
        rw [canB_kp hk]
        have ih2 := ih s2 (hk.tr hk2)
        refine ab_br ok_Ha_clerksFor rfl rfl ?_ ?_
        · intro h3
          show ab_Z m_Ha_clerksFor _ _ _ 24 [_, _, _, _] [] _
          refine ab_go ok_Ha_clerksFor 2 rfl ?_
          show ab_Z m_Ha_clerksFor _ _ _ 4 [_, _, _, _] [] _
          rw [bitsN_no (fun c => canB s P nd c e) (bB_0.mp h3), nI_succ] at ih2
          exact ih2
        · intro h3
          show ab_Z m_Ha_clerksFor _ _ _ 18 [_, _, _, _] [] _
          refine ab_go ok_Ha_clerksFor 8 rfl ?_
          show ab_Z m_Ha_clerksFor _ _ _ 4 [_, _, _, _] [] _
          rw [bitsN_or (fun c => canB s P nd c e) (by omega) (bB_n0 h3), ← nI_succ]
          exact ih2
theorem t_Ha_deedsFor {P : List (List Ins)} (hL : CLaw s 22 P) {nd c : Nat} (hn : s 14 12 = nI nd) (hn6 : nd ≤ 6) (hc : c < 5) : ab_T g_Ha_deedsFor (d + 5) (0, 0) [.ref 9, .int (nI c)] (HA fm X s t) (P2 (nI (bitsN (fun e => canB s P nd c e) nd)) fm X s t) := by
  refine ab_T_of (M := m_Ha_deedsFor) rfl rfl (Nat.le_of_ble_eq_true rfl) ?_
  show ab_Z m_Ha_deedsFor _ _ _ 0 [_, _, _, _] [] _
  refine ab_go ok_Ha_deedsFor 4 rfl ?_
  show ab_Z m_Ha_deedsFor _ _ _ 4 [_, _, _, _] [] _
  refine lp_dn nd (fun k => ∀ s1, Kp2 s s1 → ab_Z m_Ha_deedsFor (d + 5) (0, 0) (P2 (nI (bitsN (fun e => canB s P nd c e) nd)) fm X s t) 4 [some (.ref 9), some (.int (nI c)), some (.int (nI (bitsN (fun e => canB s P nd c e) k))), some (.int (nI k))] [] (HA fm X s1 t)) ?_ ?_ s (Kp2.rf s)
  · intro s1 hk
    refine ab_go ok_Ha_deedsFor 4 rfl ?_
    show ab_Z m_Ha_deedsFor _ _ _ 8 [_, _, _, _] [_, _] _
    rw [(hk 14 12 rfl (by decide)).trans hn]
    refine ab_br ok_Ha_deedsFor rfl rfl ?_ ?_
    · intro h1
      show ab_Z m_Ha_deedsFor _ _ _ 26 [_, _, _, _] [] _
      refine ab_go ok_Ha_deedsFor 1 rfl ?_
      show ab_Z m_Ha_deedsFor _ _ _ 27 [_, _, _, _] [_] _
      exact ab_rI ok_Ha_deedsFor rfl (⟨rfl, s1, rfl, hk⟩)
    · intro h1
      show ab_Z m_Ha_deedsFor _ _ _ 9 [_, _, _, _] [] _
      exact absurd (lp_out nd) h1
  · intro k hkn ih s1 hk
    refine ab_go ok_Ha_deedsFor 4 rfl ?_
    show ab_Z m_Ha_deedsFor _ _ _ 8 [_, _, _, _] [_, _] _
    rw [(hk 14 12 rfl (by decide)).trans hn]
    refine ab_br ok_Ha_deedsFor rfl rfl ?_ ?_
    · intro h1
      show ab_Z m_Ha_deedsFor _ _ _ 26 [_, _, _, _] [] _
      exact absurd h1 (lp_in (by omega) hkn)
    · intro h1
      show ab_Z m_Ha_deedsFor _ _ _ 9 [_, _, _, _] [] _
      refine ab_go ok_Ha_deedsFor 2 rfl ?_
      show ab_Z m_Ha_deedsFor _ _ _ 11 [_, _, _, _] [_, _] _
      refine ab_cl ok_Ha_deedsFor rfl [_, _] [] rfl ⟨_, _, rfl, rfl, Or.inl ⟨_, _, rfl, rfl⟩⟩ (Nat.le_of_ble_eq_true rfl) (t_Ha_isOpen' (d + 3) fm X s1 t hkn ((hk 14 12 rfl (by decide)).trans hn) hn6) ?_
      rintro _ _ ⟨rfl, rfl⟩
      show ab_Z m_Ha_deedsFor _ _ _ 12 [_, _, _, _] [_] _
      rw [hk 11 _ rfl (by decide)]
      refine ab_br ok_Ha_deedsFor rfl rfl ?_ ?_
      · intro h2
        show ab_Z m_Ha_deedsFor _ _ _ 24 [_, _, _, _] [] _
        refine ab_go ok_Ha_deedsFor 2 rfl ?_
        show ab_Z m_Ha_deedsFor _ _ _ 4 [_, _, _, _] [] _
        have ih2 := ih s1 hk
        rw [bitsN_no (fun e => canB s P nd c e) (canB_op (bB_0.mp h2)), nI_succ] at ih2
        exact ih2
      · intro h2
        show ab_Z m_Ha_deedsFor _ _ _ 13 [_, _, _, _] [] _
        refine ab_go ok_Ha_deedsFor 3 rfl ?_
        show ab_Z m_Ha_deedsFor _ _ _ 16 [_, _, _, _] [_, _, _] _
        refine ab_cl ok_Ha_deedsFor rfl [_, _, _] [] rfl ⟨_, _, rfl, rfl, Or.inl ⟨_, _, rfl, rfl⟩⟩ (Nat.le_of_ble_eq_true rfl) (t_Ha_canSeal d fm X s1 t (CLaw_kp (by simp) hk hL) ((hk 14 12 rfl (by decide)).trans hn) hn6 hc hkn) ?_
        rintro _ _ ⟨rfl, s2, rfl, hk2, -⟩
        show ab_Z m_Ha_deedsFor _ _ _ 17 [_, _, _, _] [_] _
        rw [canB_kp hk]
        have ih2 := ih s2 (hk.tr hk2)
        refine ab_br ok_Ha_deedsFor rfl rfl ?_ ?_
        · intro h3
          show ab_Z m_Ha_deedsFor _ _ _ 24 [_, _, _, _] [] _
          refine ab_go ok_Ha_deedsFor 2 rfl ?_
          show ab_Z m_Ha_deedsFor _ _ _ 4 [_, _, _, _] [] _
          rw [bitsN_no (fun e => canB s P nd c e) (bB_0.mp h3), nI_succ] at ih2
          exact ih2
        · intro h3
          show ab_Z m_Ha_deedsFor _ _ _ 18 [_, _, _, _] [] _
          refine ab_go ok_Ha_deedsFor 8 rfl ?_
          show ab_Z m_Ha_deedsFor _ _ _ 4 [_, _, _, _] [] _
          rw [bitsN_or (fun e => canB s P nd c e) (by omega) (bB_n0 h3), ← nI_succ]
          exact ih2
def stuckB (s : Nat → Nat → Int32) (P : List (List Ins)) (nc nd e : Nat) : Bool := decide (s 11 (33 + e) = -2) && decide (bitsN (fun c => canB s P nd c e) nc = 0)
theorem t_Ha_stuckDeeds {P : List (List Ins)} (hL : CLaw s 22 P) {nc nd : Nat} (hnc : s 14 11 = nI nc) (hc5 : nc ≤ 5) (hn : s 14 12 = nI nd) (hn6 : nd ≤ 6) : ab_T g_Ha_stuckDeeds (d + 6) (0, 0) [.ref 9] (HA fm X s t) (P2 (nI (bitsN (stuckB s P nc nd) nd)) fm X s t) := by
  refine ab_T_of (M := m_Ha_stuckDeeds) rfl rfl (Nat.le_of_ble_eq_true rfl) ?_
  show ab_Z m_Ha_stuckDeeds _ _ _ 0 [_, _, _] [] _
  refine ab_go ok_Ha_stuckDeeds 4 rfl ?_
  show ab_Z m_Ha_stuckDeeds _ _ _ 4 [_, _, _] [] _
  refine lp_dn nd (fun k => ∀ s1, Kp2 s s1 → ab_Z m_Ha_stuckDeeds (d + 6) (0, 0) (P2 (nI (bitsN (stuckB s P nc nd) nd)) fm X s t) 4 [some (.ref 9), some (.int (nI (bitsN (stuckB s P nc nd) k))), some (.int (nI k))] [] (HA fm X s1 t)) ?_ ?_ s (Kp2.rf s)
  · intro s1 hk
    refine ab_go ok_Ha_stuckDeeds 4 rfl ?_
    show ab_Z m_Ha_stuckDeeds _ _ _ 8 [_, _, _] [_, _] _
    rw [(hk 14 12 rfl (by decide)).trans hn]
    refine ab_br ok_Ha_stuckDeeds rfl rfl ?_ ?_
    · intro h1
      show ab_Z m_Ha_stuckDeeds _ _ _ 25 [_, _, _] [] _
      refine ab_go ok_Ha_stuckDeeds 1 rfl ?_
      show ab_Z m_Ha_stuckDeeds _ _ _ 26 [_, _, _] [_] _
      exact ab_rI ok_Ha_stuckDeeds rfl (⟨rfl, s1, rfl, hk⟩)
    · intro h1
      show ab_Z m_Ha_stuckDeeds _ _ _ 9 [_, _, _] [] _
      exact absurd (lp_out nd) h1
  · intro k hkn ih s1 hk
    refine ab_go ok_Ha_stuckDeeds 4 rfl ?_
    show ab_Z m_Ha_stuckDeeds _ _ _ 8 [_, _, _] [_, _] _
    rw [(hk 14 12 rfl (by decide)).trans hn]
    refine ab_br ok_Ha_stuckDeeds rfl rfl ?_ ?_
    · intro h1
      show ab_Z m_Ha_stuckDeeds _ _ _ 25 [_, _, _] [] _
      exact absurd h1 (lp_in (by omega) hkn)
    · intro h1
      show ab_Z m_Ha_stuckDeeds _ _ _ 9 [_, _, _] [] _
      refine ab_go ok_Ha_stuckDeeds 2 rfl ?_
      show ab_Z m_Ha_stuckDeeds _ _ _ 11 [_, _, _] [_, _] _
      refine ab_cl ok_Ha_stuckDeeds rfl [_, _] [] rfl ⟨_, _, rfl, rfl, Or.inl ⟨_, _, rfl, rfl⟩⟩ (Nat.le_of_ble_eq_true rfl) (t_Ha_isOpen' (d + 4) fm X s1 t hkn ((hk 14 12 rfl (by decide)).trans hn) hn6) ?_
      rintro _ _ ⟨rfl, rfl⟩
      show ab_Z m_Ha_stuckDeeds _ _ _ 12 [_, _, _] [_] _
      rw [hk 11 _ rfl (by decide)]
      refine ab_br ok_Ha_stuckDeeds rfl rfl ?_ ?_
      · intro h2
        show ab_Z m_Ha_stuckDeeds _ _ _ 23 [_, _, _] [] _
        refine ab_go ok_Ha_stuckDeeds 2 rfl ?_
        show ab_Z m_Ha_stuckDeeds _ _ _ 4 [_, _, _] [] _
        have ih2 := ih s1 hk
        rw [bitsN_no (stuckB s P nc nd) (by unfold stuckB; rw [bB_0.mp h2]; rfl), nI_succ] at ih2
        exact ih2
      · intro h2
        show ab_Z m_Ha_stuckDeeds _ _ _ 13 [_, _, _] [] _
        refine ab_go ok_Ha_stuckDeeds 2 rfl ?_
        show ab_Z m_Ha_stuckDeeds _ _ _ 15 [_, _, _] [_, _] _
        refine ab_cl ok_Ha_stuckDeeds rfl [_, _] [] rfl ⟨_, _, rfl, rfl, Or.inl ⟨_, _, rfl, rfl⟩⟩ (Nat.le_of_ble_eq_true rfl) (t_Ha_clerksFor d fm X s1 t (CLaw_kp (by simp) hk hL) ((hk 14 11 rfl (by decide)).trans hnc) hc5 ((hk 14 12 rfl (by decide)).trans hn) hn6 hkn) ?_
        rintro _ _ ⟨rfl, s2, rfl, hk2⟩
        show ab_Z m_Ha_stuckDeeds _ _ _ 16 [_, _, _] [_] _
        rw [bitsN_cg (fun c _ => canB_kp hk P nd c k)]
        have ih2 := ih s2 (hk.tr hk2)
        have hlt := bitsN_lt (fun c => canB s P nd c k) nc
        have h32 : 2 ^ nc ≤ 2 ^ 5 := Nat.pow_le_pow_right (by decide) hc5
        refine ab_br ok_Ha_stuckDeeds rfl rfl ?_ ?_
        · intro h3
          show ab_Z m_Ha_stuckDeeds _ _ _ 17 [_, _, _] [] _
          have h3 := (nI_eq (b := 0) (by omega) (by decide)).mp h3
          refine ab_go ok_Ha_stuckDeeds 8 rfl ?_
          show ab_Z m_Ha_stuckDeeds _ _ _ 4 [_, _, _] [] _
          rw [bitsN_or (stuckB s P nc nd) (by omega) (by unfold stuckB; rw [bB_n0 h2, decide_eq_true h3]; rfl), ← nI_succ]
          exact ih2
        · intro h3
          show ab_Z m_Ha_stuckDeeds _ _ _ 23 [_, _, _] [] _
          refine ab_go ok_Ha_stuckDeeds 2 rfl ?_
          show ab_Z m_Ha_stuckDeeds _ _ _ 4 [_, _, _] [] _
          rw [bitsN_no (stuckB s P nc nd) (by unfold stuckB; rw [show decide (bitsN (fun c => canB s P nd c k) nc = 0) = false from decide_eq_false (fun z => h3 (by rw [z]; rfl)), Bool.and_false]), nI_succ] at ih2
          exact ih2
theorem t_Ha_idleClerks {P : List (List Ins)} (hL : CLaw s 22 P) {nc nd : Nat} (hnc : s 14 11 = nI nc) (hc5 : nc ≤ 5) (hn : s 14 12 = nI nd) (hn6 : nd ≤ 6) : ab_T g_Ha_idleClerks (d + 6) (0, 0) [.ref 9] (HA fm X s t) (P2 (nI (bitsN (fun c => decide (bitsN (fun e => canB s P nd c e) nd = 0)) nc)) fm X s t) := by
  refine ab_T_of (M := m_Ha_idleClerks) rfl rfl (Nat.le_of_ble_eq_true rfl) ?_
  show ab_Z m_Ha_idleClerks _ _ _ 0 [_, _, _] [] _
  refine ab_go ok_Ha_idleClerks 4 rfl ?_
  show ab_Z m_Ha_idleClerks _ _ _ 4 [_, _, _] [] _
  refine lp_dn nc (fun k => ∀ s1, Kp2 s s1 → ab_Z m_Ha_idleClerks (d + 6) (0, 0) (P2 (nI (bitsN (fun c => decide (bitsN (fun e => canB s P nd c e) nd = 0)) nc)) fm X s t) 4 [some (.ref 9), some (.int (nI (bitsN (fun c => decide (bitsN (fun e => canB s P nd c e) nd = 0)) k))), some (.int (nI k))] [] (HA fm X s1 t)) ?_ ?_ s (Kp2.rf s)
  · intro s1 hk
    refine ab_go ok_Ha_idleClerks 4 rfl ?_
    show ab_Z m_Ha_idleClerks _ _ _ 8 [_, _, _] [_, _] _
    rw [(hk 14 11 rfl (by decide)).trans hnc]
    refine ab_br ok_Ha_idleClerks rfl rfl ?_ ?_
    · intro h1
      show ab_Z m_Ha_idleClerks _ _ _ 21 [_, _, _] [] _
      refine ab_go ok_Ha_idleClerks 1 rfl ?_
      show ab_Z m_Ha_idleClerks _ _ _ 22 [_, _, _] [_] _
      exact ab_rI ok_Ha_idleClerks rfl (⟨rfl, s1, rfl, hk⟩)
    · intro h1
      show ab_Z m_Ha_idleClerks _ _ _ 9 [_, _, _] [] _
      exact absurd (lp_out nc) h1
  · intro k hkn ih s1 hk
    refine ab_go ok_Ha_idleClerks 4 rfl ?_
    show ab_Z m_Ha_idleClerks _ _ _ 8 [_, _, _] [_, _] _
    rw [(hk 14 11 rfl (by decide)).trans hnc]
    refine ab_br ok_Ha_idleClerks rfl rfl ?_ ?_
    · intro h1
      show ab_Z m_Ha_idleClerks _ _ _ 21 [_, _, _] [] _
      exact absurd h1 (lp_in (by omega) hkn)
    · intro h1
      show ab_Z m_Ha_idleClerks _ _ _ 9 [_, _, _] [] _
      refine ab_go ok_Ha_idleClerks 2 rfl ?_
      show ab_Z m_Ha_idleClerks _ _ _ 11 [_, _, _] [_, _] _
      refine ab_cl ok_Ha_idleClerks rfl [_, _] [] rfl ⟨_, _, rfl, rfl, Or.inl ⟨_, _, rfl, rfl⟩⟩ (Nat.le_of_ble_eq_true rfl) (t_Ha_deedsFor d fm X s1 t (CLaw_kp (by simp) hk hL) ((hk 14 12 rfl (by decide)).trans hn) hn6 (show k < 5 by omega)) ?_
      rintro _ _ ⟨rfl, s2, rfl, hk2⟩
      show ab_Z m_Ha_idleClerks _ _ _ 12 [_, _, _] [_] _
      rw [bitsN_cg (fun e _ => canB_kp hk P nd k e)]
      have ih2 := ih s2 (hk.tr hk2)
      have hlt := bitsN_lt (fun e => canB s P nd k e) nd
      have h64 : 2 ^ nd ≤ 2 ^ 6 := Nat.pow_le_pow_right (by decide) hn6
      refine ab_br ok_Ha_idleClerks rfl rfl ?_ ?_
      · intro h3
        show ab_Z m_Ha_idleClerks _ _ _ 13 [_, _, _] [] _
        have h3 := (nI_eq (b := 0) (Nat.lt_of_lt_of_le hlt (by omega)) (by decide)).mp h3
        refine ab_go ok_Ha_idleClerks 8 rfl ?_
        show ab_Z m_Ha_idleClerks _ _ _ 4 [_, _, _] [] _
        rw [bitsN_or (fun c => decide (bitsN (fun e => canB s P nd c e) nd = 0)) (by omega) (decide_eq_true h3), ← nI_succ]
        exact ih2
      · intro h3
        show ab_Z m_Ha_idleClerks _ _ _ 19 [_, _, _] [] _
        refine ab_go ok_Ha_idleClerks 2 rfl ?_
        show ab_Z m_Ha_idleClerks _ _ _ 4 [_, _, _] [] _
        rw [bitsN_no (fun c => decide (bitsN (fun e => canB s P nd c e) nd = 0)) (decide_eq_false (fun z => h3 (by rw [z]; rfl))), nI_succ] at ih2
        exact ih2
end

