/-! the plan's calls, with the stamp that they leave -/
section
variable (d : Nat) (fm : Value) (X : Nat × (Nat → Int32)) (s : Nat → Nat → Int32) (t : Nat → Nat → Int64)
variable {nc nd nt : Nat} {PT PG PB PF : List (List Ins)}
abbrev PP' (r : Int32) (fm : Value) (X : Nat × (Nat → Int32)) (s : Nat → Nat → Int32) (t : Nat → Nat → Int64) (PT PB : List (List Ins)) (nc nd : Nat) : Option Value → ab_H → Prop := fun v h => v = some (.int r) ∧ ∃ s' t', h = HA fm X s' t' ∧ KpP s s' ∧ TpP t t' ∧ ((s' 45 7 = s 10 1 ∧ POk s' t' PT PB nc nd) ∨ (s' = s ∧ t' = t))
theorem u_SF_all (hC : CI s nc nd nt PT PG PB PF) (hI : PlI s t PT PB nc nd) (x : Int32) : ab_T g_SF_all (d + 7) (0, 0) [.ref 0, .int x] (HA fm X s t) (PP' (if x = -1 then bbF (bstV s PT PB nc nd) else if inR nd x then slrV (bstV s PT PB nc nd) x.toNatClampNeg else -1) fm X s t PT PB nc nd) := by
  have h6 : nd ≤ 6 := hC.1.2.2.2.1
  refine ab_T_of (M := m_SF_all) rfl rfl (Nat.le_of_ble_eq_true rfl) ?_
  show ab_Z m_SF_all _ _ _ 0 [_, _] [] _
  refine ab_go ok_SF_all 2 rfl ?_
  show ab_Z m_SF_all _ _ _ 2 [_, _] [_] _
  refine ab_cl ok_SF_all rfl [_] [] rfl ⟨_, _, rfl, rfl, Or.inl ⟨_, _, rfl, rfl⟩⟩ (Nat.le_of_ble_eq_true rfl) (t_Pl_prepare d fm X s t hC hI) ?_
  rintro _ _ ⟨rfl, s1, t1, rfl, hk, ht, h45, hP⟩
  show ab_Z m_SF_all _ _ _ 3 [_, _] [] _
  have hC1 := CI_h hk.toH hC
  have hk5 : ∀ s2 : Nat → Nat → Int32, (∀ x, x ≠ 50 → s2 x = s1 x) → KpP s s2 := fun s2 h2 x k p q => by rw [h2 x (by omega)]; exact hk x k p q
  have h457 : ∀ s2 : Nat → Nat → Int32, (∀ x, x ≠ 50 → s2 x = s1 x) → s2 45 7 = s 10 1 := fun s2 h2 => by rw [h2 45 (by decide)]; exact h45
  refine ab_go ok_SF_all 2 rfl ?_
  show ab_Z m_SF_all _ _ _ 5 [_, _] [_, _] _
  refine ab_br ok_SF_all rfl rfl ?_ ?_
  · intro h1
    show ab_Z m_SF_all _ _ _ 6 [_, _] [] _
    refine ab_go ok_SF_all 2 rfl ?_
    show ab_Z m_SF_all _ _ _ 8 [_, _] [_] _
    refine ab_cl ok_SF_all rfl [_] [] rfl ⟨_, _, rfl, rfl, Or.inl ⟨_, _, rfl, rfl⟩⟩ (Nat.le_of_ble_eq_true rfl) (t_Pl_mostBound (d + 3) fm X s1 t1 hC1 hP) ?_
    rintro _ _ ⟨rfl, s2, rfl, hk2⟩
    show ab_Z m_SF_all _ _ _ 9 [_, _] [_] _
    rw [bstV_h hk.toH, if_pos h1]
    exact ab_rI ok_SF_all rfl (⟨rfl, s2, t1, rfl, hk5 s2 hk2, ht, Or.inl ⟨h457 s2 hk2, POk_50 hk2 (fun _ _ => rfl) hP⟩⟩)
  · intro h1
    show ab_Z m_SF_all _ _ _ 10 [_, _] [] _
    rw [if_neg h1]
    refine ab_go ok_SF_all 3 rfl ?_
    show ab_Z m_SF_all _ _ _ 13 [_, _] [_, _] _
    refine ab_cl ok_SF_all rfl [_, _] [] rfl ⟨_, _, rfl, rfl, Or.inl ⟨_, _, rfl, rfl⟩⟩ (Nat.le_of_ble_eq_true rfl) (t_Ha_isDeed' (d + 6) fm X s1 t1 hC1.1 x) ?_
    rintro _ _ ⟨rfl, rfl⟩
    show ab_Z m_SF_all _ _ _ 14 [_, _] [_] _
    refine ab_br ok_SF_all rfl rfl ?_ ?_
    · intro h2
      show ab_Z m_SF_all _ _ _ 20 [_, _] [] _
      refine ab_go ok_SF_all 1 rfl ?_
      show ab_Z m_SF_all _ _ _ 21 [_, _] [_] _
      exact ab_rI ok_SF_all rfl (⟨by rw [if_neg (bI_0.mp h2)], s1, t1, rfl, hk, ht, Or.inl ⟨h45, hP⟩⟩)
    · intro h2
      show ab_Z m_SF_all _ _ _ 15 [_, _] [] _
      obtain ⟨e, he, rfl⟩ := inR_nat (bI_n0 h2)
      refine ab_go ok_SF_all 3 rfl ?_
      show ab_Z m_SF_all _ _ _ 18 [_, _] [_, _] _
      refine ab_cl ok_SF_all rfl [_, _] [] rfl ⟨_, _, rfl, rfl, Or.inl ⟨_, _, rfl, rfl⟩⟩ (Nat.le_of_ble_eq_true rfl) (t_Pl_sealerFor (d + 3) fm X s1 t1 hC1 hP (show e < 6 by omega)) ?_
      rintro _ _ ⟨rfl, s2, rfl, hk2⟩
      show ab_Z m_SF_all _ _ _ 19 [_, _] [_] _
      rw [bstV_h hk.toH]
      refine ab_go ok_SF_all 1 rfl ?_
      show ab_Z m_SF_all _ _ _ 21 [_, _] [_] _
      exact ab_rI ok_SF_all rfl (⟨by rw [if_pos (bI_n0 h2), nI_c (by omega)], s2, t1, rfl, hk5 s2 hk2, ht, Or.inl ⟨h457 s2 hk2, POk_50 hk2 (fun _ _ => rfl) hP⟩⟩)
theorem u_SF_fewest (hC : CI s nc nd nt PT PG PB PF) (hI : PlI s t PT PB nc nd) (w : Int32) : ab_T g_SF_fewest (d + 7) (0, 0) [.ref 0, .int w] (HA fm X s t) (PP' (if w = 0 ∨ w = 1 then (if fewA s PT nc nd = -2 then -2 else if w = 0 then bcF (fewA s PT nc nd) else fewA s PT nc nd) else -1) fm X s t PT PB nc nd) := by
  refine ab_T_of (M := m_SF_fewest) rfl rfl (Nat.le_of_ble_eq_true rfl) ?_
  show ab_Z m_SF_fewest _ _ _ 0 [_, _, _] [] _
  refine ab_go ok_SF_fewest 1 rfl ?_
  show ab_Z m_SF_fewest _ _ _ 1 [_, _, _] [_] _
  refine ab_cl ok_SF_fewest rfl [_] [] rfl rfl (Nat.le_of_ble_eq_true rfl) (t_SF_isHow (d + 6) _ w) ?_
  rintro _ _ ⟨rfl, rfl⟩
  show ab_Z m_SF_fewest _ _ _ 2 [_, _, _] [_] _
  refine ab_br ok_SF_fewest rfl rfl ?_ ?_
  · intro h1
    show ab_Z m_SF_fewest _ _ _ 3 [_, _, _] [] _
    have hw := bI_0.mp h1
    refine ab_go ok_SF_fewest 1 rfl ?_
    show ab_Z m_SF_fewest _ _ _ 4 [_, _, _] [_] _
    exact ab_rI ok_SF_fewest rfl (⟨by rw [if_neg hw], s, t, rfl, KpP.rf s, TpP.rf t, Or.inr ⟨rfl, rfl⟩⟩)
  · intro h1
    show ab_Z m_SF_fewest _ _ _ 5 [_, _, _] [] _
    have hw := bI_n0 h1
    rw [if_pos hw]
    refine ab_go ok_SF_fewest 2 rfl ?_
    show ab_Z m_SF_fewest _ _ _ 7 [_, _, _] [_] _
    refine ab_cl ok_SF_fewest rfl [_] [] rfl ⟨_, _, rfl, rfl, Or.inl ⟨_, _, rfl, rfl⟩⟩ (Nat.le_of_ble_eq_true rfl) (t_Pl_prepare d fm X s t hC hI) ?_
    rintro _ _ ⟨rfl, s1, t1, rfl, hk, ht, h45, hP⟩
    show ab_Z m_SF_fewest _ _ _ 8 [_, _, _] [] _
    have hC1 := CI_h hk.toH hC
    refine ab_go ok_SF_fewest 2 rfl ?_
    show ab_Z m_SF_fewest _ _ _ 10 [_, _, _] [_] _
    refine ab_cl ok_SF_fewest rfl [_] [] rfl ⟨_, _, rfl, rfl, Or.inl ⟨_, _, rfl, rfl⟩⟩ (Nat.le_of_ble_eq_true rfl) (t_Pl_fewestClerks (d + 4) fm X s1 t1 hC1 hP) ?_
    rintro _ _ ⟨rfl, t2, rfl, ht2⟩
    show ab_Z m_SF_fewest _ _ _ 11 [_, _, _] [_] _
    rw [fewA_h hk.toH]
    have hT : TpP t t2 := fun x p q => (ht2 x q).trans (ht x p q)
    have hP2 := POk_50 (s := s1) (s' := s1) (fun _ _ => rfl) ht2 hP
    refine ab_go ok_SF_fewest 3 rfl ?_
    show ab_Z m_SF_fewest _ _ _ 14 [_, _, _] [_, _] _
    refine ab_br ok_SF_fewest rfl rfl ?_ ?_
    · intro h2
      show ab_Z m_SF_fewest _ _ _ 15 [_, _, _] [] _
      refine ab_go ok_SF_fewest 2 rfl ?_
      show ab_Z m_SF_fewest _ _ _ 20 [_, _, _] [_] _
      exact ab_rI ok_SF_fewest rfl (⟨by rw [if_pos h2], s1, t2, rfl, hk, hT, Or.inl ⟨h45, hP2⟩⟩)
    · intro h2
      show ab_Z m_SF_fewest _ _ _ 17 [_, _, _] [] _
      rw [if_neg h2]
      refine ab_go ok_SF_fewest 2 rfl ?_
      show ab_Z m_SF_fewest _ _ _ 19 [_, _, _] [_, _] _
      refine ab_cl ok_SF_fewest rfl [_, _] [] rfl rfl (Nat.le_of_ble_eq_true rfl) (t_SF_countOrBits (d + 5) _ _ _) ?_
      rintro _ _ ⟨rfl, rfl⟩
      show ab_Z m_SF_fewest _ _ _ 20 [_, _, _] [_] _
      exact ab_rI ok_SF_fewest rfl (⟨rfl, s1, t2, rfl, hk, hT, Or.inl ⟨h45, hP2⟩⟩)
end
theorem INV.pl {n : Nat} {s s1 s2 : Nat → Nat → Int32} {t t1 : Nat → Nat → Int64} {x : Tx} {lv w m : Nat} (h : INV n s t) (hT : IT s t x lv) (hG : GR (s 17) (xNc x) (xNd x) (s 11) (s 114)) (hM : IM s x w m) (hS : IS s x) (hO : IOt s) (hP : IP s) (hW : IW s t) (hL : IL n s t x) (k1 : KpP s s1) (kt : TpP t t1) (hp : (s1 45 7 = s 10 1 ∧ POk s1 t1 (xLw x 0) (xLw x 2) (xNc x) (xNd x)) ∨ (s1 = s ∧ t1 = t)) (k2 : Kr w4 s1 s2) : INV (n + 1) s2 t1 := by
  rcases hp with ⟨p1, p2⟩ | ⟨rfl, rfl⟩
  · have o : ∀ c k, scr1 c k = false → ¬ (45 ≤ c ∧ c ≤ 51) → w4 c k = false → s2 c k = s c k := fun c k a b d => (k2 c k d).trans (k1 c k a b)
    have r : ∀ c, (∀ k, scr1 c k = false) → ¬ (45 ≤ c ∧ c ≤ 51) → (∀ k, w4 c k = false) → s2 c = s c := fun c a b d => funext fun k => o c k (a k) b (d k)
    have q : ∀ c, c = 2 ∨ c = 11 ∨ c = 16 ∨ c = 17 ∨ c = 19 ∨ c = 20 ∨ c = 39 ∨ c = 40 ∨ c = 42 ∨ c = 43 ∨ c = 44 ∨ c = 82 ∨ c = 114 ∨ c = 119 ∨ c = 124 ∨ c = 125 ∨ c = 126 ∨ c = 127 ∨ c = 128 → s2 c = s c := fun c hc => by
      rcases hc with rfl | rfl | rfl | rfl | rfl | rfl | rfl | rfl | rfl | rfl | rfl | rfl | rfl | rfl | rfl | rfl | rfl | rfl | rfl <;> exact r _ (fun _ => rfl) (by decide) (fun _ => rfl)
    obtain ⟨a, a1, a2, a3, -⟩ := hL
    refine ⟨x, lv, w, m, hT.of (fun c k h1 h2 h3 => o c k h3 (by omega) (w4_lo (by omega) k)) ⟨kt 15 (by decide) (by decide), kt 18 (by decide) (by decide)⟩ (fun c h1 h2 => r c (fun k => scr1_hi (by omega) k) (by omega) (fun k => w4_txt h1 h2 k)) (o 81 18 rfl (by decide) rfl), ?_, hM.of (q 17 (by decide)) (o 38 3 rfl (by decide) rfl) (o 38 4 rfl (by decide) rfl) (o 81 56 rfl (by decide) rfl) (q 39 (by decide)) (q 119 (by decide)), hS.of (q 17 (by decide)) (o 38 2 rfl (by decide) rfl) (q 127 (by decide)) (q 40 (by decide)) (q 128 (by decide)), hO.of (o 41 3 rfl (by decide) rfl) (q 42 (by decide)) (q 43 (by decide)) (q 44 (by decide)) (o 81 63 rfl (by decide) rfl) (q 124 (by decide)) (q 125 (by decide)) (q 126 (by decide)), hP.of (o 1 1 rfl (by decide) rfl) (o 81 2 rfl (by decide) rfl) (q 2 (by decide)) (q 82 (by decide)), hW.of (o 0 9 rfl (by decide) rfl) (o 81 17 rfl (by decide) rfl) (o 8 5 rfl (by decide) rfl) ⟨kt 7 (by decide) (by decide), kt 88 (by decide) (by decide)⟩, ⟨a, (o 10 1 rfl (by decide) rfl).trans a1, by omega, Or.inr ⟨a, Nat.le_refl _, ?_⟩, fun _ => POk_4 ⟨k2.row (fun _ => rfl), k2.row (fun _ => rfl), k2.row (fun _ => rfl), k2.row (fun _ => rfl)⟩ (k2.row (fun _ => rfl)) rfl p2⟩⟩
    · rw [q 17 (by decide), q 11 (by decide), q 114 (by decide)]
      exact hG
    · rw [k2 45 7 rfl, p1, a1]
  · exact h.ka k2.A
section
variable {n : Nat} (X : Nat × (Nat → Int32)) {s : Nat → Nat → Int32} {t : Nat → Nat → Int64}
theorem p_all (h : INV n s t) (x : Int32) : Pair g_SF_all g_Mo_all 26 26 X [.int x] (n + 1) s t := by
  obtain ⟨q, lv, w, m, hT, hG, hM, hS, hO, hP, hW, hL⟩ := id h
  have hQ := hT.Q hG
  have hC : CI s (xNc q) (xNd q) (xNt q) (xLw q 0) (xLw q 1) (xLw q 2) (xLw q 3) := ⟨hT.C, hQ.1⟩
  have hI : PlI s t (xLw q 0) (xLw q 2) (xNc q) (xNd q) := by
    obtain ⟨a, -, -, -, a4⟩ := hL
    exact a4
  intro fm
  refine ab_T_mono (u_SF_all 19 fm X s t hC hI x) ?_
  rintro v _ ⟨rfl, s1, t1, rfl, k1, kt, hp⟩
  refine ⟨_, s1, t1, false, rfl, rfl, fun fm => ?_⟩
  have e : ∀ c, 81 ≤ c → s1 c = s c := fun c hc => funext fun k => k1 c k (scr1_hi (by omega) k) (by omega)
  have hV : vR s (xNc q) (xNd q) (s1 114) = s := by rw [e 114 (by decide)]; exact hG.V
  have hQ1 : QI (vR s (xNc q) (xNd q) (s1 114)) (xNc q) (xNd q) (xNt q) := by rw [hV]; exact hQ
  have k := t_Mo_all 20 fm X s1 s t1 (hT.R' e) hQ1 x
  rw [hV] at k
  refine ab_T_mono k ?_
  rintro v _ ⟨rfl, s2, rfl, k2⟩
  exact ⟨_, s2, t1, false, rfl, rfl, rfl, rfl, h.pl hT hG hM hS hO hP hW hL k1 kt hp k2⟩
theorem p_fewest (h : INV n s t) (x : Int32) : Pair g_SF_fewest g_Mo_fewest 26 26 X [.int x] (n + 1) s t := by
  obtain ⟨q, lv, w, m, hT, hG, hM, hS, hO, hP, hW, hL⟩ := id h
  have hQ := hT.Q hG
  have hC : CI s (xNc q) (xNd q) (xNt q) (xLw q 0) (xLw q 1) (xLw q 2) (xLw q 3) := ⟨hT.C, hQ.1⟩
  have hI : PlI s t (xLw q 0) (xLw q 2) (xNc q) (xNd q) := by
    obtain ⟨a, -, -, -, a4⟩ := hL
    exact a4
  intro fm
  refine ab_T_mono (u_SF_fewest 19 fm X s t hC hI x) ?_
  rintro v _ ⟨rfl, s1, t1, rfl, k1, kt, hp⟩
  refine ⟨_, s1, t1, false, rfl, rfl, fun fm => ?_⟩
  have e : ∀ c, 81 ≤ c → s1 c = s c := fun c hc => funext fun k => k1 c k (scr1_hi (by omega) k) (by omega)
  have hV : vR s (xNc q) (xNd q) (s1 114) = s := by rw [e 114 (by decide)]; exact hG.V
  have hQ1 : QI (vR s (xNc q) (xNd q) (s1 114)) (xNc q) (xNd q) (xNt q) := by rw [hV]; exact hQ
  have k := t_Mo_fewest 21 fm X s1 s t1 (hT.R' e)  x
  rw [hV] at k
  refine ab_T_mono k ?_
  rintro v _ ⟨rfl, s2, rfl, k2⟩
  exact ⟨_, s2, t1, false, rfl, rfl, rfl, rfl, h.pl hT hG hM hS hO hP hW hL k1 kt hp k2⟩
end

