/-! what changes the scene: the row becomes r, the stamp grows by n, all else stays but scratch -/
def Kp3 (s s' : Nat → Nat → Int32) : Prop := ∀ c k, scr1 c k = false → c ≠ 13 → c ≠ 11 → ¬ (c = 10 ∧ k = 1) → s' c k = s c k
def Sn (s s' : Nat → Nat → Int32) (r : Nat → Int32) (n : Nat) : Prop := s' 11 = r ∧ s' 10 1 = s 10 1 + nI n ∧ Kp3 s s'
theorem Sn.rf (s : Nat → Nat → Int32) : Sn s s (s 11) 0 := ⟨rfl, by rw [nI_0, Int32.add_zero], fun _ _ _ _ _ _ => rfl⟩
theorem Sn.up {s s' : Nat → Nat → Int32} {r : Nat → Int32} {n j : Nat} {v : Int32} (h : Sn s s' r n) : Sn s (upSt (ab_up s' 11 j v)) (upd r j v) (n + 1) := by
  obtain ⟨h1, h2, h3⟩ := h
  refine ⟨?_, ?_, fun c k a b e f => ?_⟩
  · unfold upSt
    rw [ab_up_o (by decide), ab_up_c, h1]
    rfl
  · unfold upSt
    rw [ab_up_s, ab_up_o (by decide), h2, nI_succ, Int32.add_assoc]
  · unfold upSt
    by_cases h10 : c = 10
    · subst h10
      rw [ab_up_n (fun z => f ⟨rfl, z⟩), ab_up_o (by decide)]
      exact h3 10 k a b e f
    · rw [ab_up_o h10, ab_up_o e]
      exact h3 c k a b e f
theorem Sn.k2 {s s' s2 : Nat → Nat → Int32} {r : Nat → Int32} {n : Nat} (h : Sn s s' r n) (hk : Kp2 s' s2) : Sn s s2 r n := by
  obtain ⟨h1, h2, h3⟩ := h
  refine ⟨?_, by rw [hk 10 1 rfl (by decide)]; exact h2, fun c k a b e f => (hk c k a b).trans (h3 c k a b e f)⟩
  rw [← h1]
  funext j
  exact hk 11 j rfl (by decide)
theorem CLaw_k3 {s s' : Nat → Nat → Int32} {p : Nat} {P : List (List Ins)} (hp : p = 22 ∨ p = 26 ∨ p = 30 ∨ p = 34) (h : Kp3 s s') (hL : CLaw s p P) : CLaw s' p P := by
  obtain ⟨l1, l2, l3, l4, l5, l6, l7⟩ := hL
  refine ⟨?_, l2, l3, l4, fun i hi => ?_, fun i Q hQ j q hq => ?_, l7⟩
  · rw [h p 4 (by rcases hp with rfl | rfl | rfl | rfl <;> rfl) (by omega) (by omega) (by omega)]; exact l1
  · rw [h (p + 2) i (by rcases hp with rfl | rfl | rfl | rfl <;> rfl) (by omega) (by omega) (by omega)]; exact l5 i hi
  · rw [h (p + 1) _ (by rcases hp with rfl | rfl | rfl | rfl <;> rfl) (by omega) (by omega) (by omega)]; exact l6 i Q hQ j q hq
def fillR (r : Nat → Int32) (a k : Nat) (g : Nat → Int32) : Nat → Int32 := fun j => if a ≤ j ∧ j < a + k then g (j - a) else r j
theorem fillR_0 (r : Nat → Int32) (a : Nat) (g : Nat → Int32) : fillR r a 0 g = r := by
  funext j
  exact if_neg (by omega)
theorem fillR_s (r : Nat → Int32) (a k : Nat) (g : Nat → Int32) : upd (fillR r a k g) (a + k) (g k) = fillR r a (k + 1) g := by
  funext j
  unfold upd fillR
  by_cases h : j = a + k
  · subst h
    rw [if_pos rfl, if_pos (by omega), Nat.add_sub_cancel_left]
  · rw [if_neg h]
    by_cases h2 : a ≤ j ∧ j < a + k
    · rw [if_pos h2, if_pos (by omega)]
    · rw [if_neg h2, if_neg (by omega)]
theorem fillR_o {r : Nat → Int32} {a k j : Nat} {g : Nat → Int32} (h : j < a ∨ a + k ≤ j) : fillR r a k g j = r j := if_neg (by omega)
theorem fillR_i {r : Nat → Int32} {a k j : Nat} {g : Nat → Int32} (h : j < k) : fillR r a k g (a + j) = g j := by
  unfold fillR
  rw [if_pos (by omega), Nat.add_sub_cancel_left]
theorem fillR_u {r : Nat → Int32} {b l j : Nat} {f : Nat → Int32} (h : j < b ∨ b + l ≤ j) (v : Int32) : upd (fillR r b l f) j v = fillR (upd r j v) b l f := by
  funext i
  unfold upd fillR
  by_cases h1 : i = j
  · subst h1
    rw [if_pos rfl, if_neg (by omega)]
    exact (if_pos rfl).symm
  · rw [if_neg h1, show (fun j_1 => if j_1 = j then v else r j_1) i = r i from if_neg h1]
abbrev PS (fm : Value) (X : Nat × (Nat → Int32)) (s : Nat → Nat → Int32) (t : Nat → Nat → Int64) (r : Nat → Int32) (n : Nat) : Option Value → ab_H → Prop := fun v h => v = none ∧ ∃ s', h = HA fm X s' t ∧ Sn s s' r n
section
variable (d : Nat) (fm : Value) (X : Nat × (Nat → Int32)) (s : Nat → Nat → Int32) (t : Nat → Nat → Int64)
theorem t_Ha_putOpen {e : Nat} (he : e < 6) : ab_T g_Ha_putOpen (d + 2) (0, 0) [.ref 9, .int (nI e)] (HA fm X s t) (PS fm X s t (upd (fillR (s 11) (15 + 3 * e) 3 (fun _ => 0)) (33 + e) (-2)) 4) := by
  refine ab_T_of (M := m_Ha_putOpen) rfl rfl (Nat.le_of_ble_eq_true rfl) ?_
  show ab_Z m_Ha_putOpen _ _ _ 0 [_, _, _] [] _
  refine ab_go ok_Ha_putOpen 2 rfl ?_
  show ab_Z m_Ha_putOpen _ _ _ 2 [_, _, _] [] _
  refine lp_dn 3 (fun k => ∀ s1, Sn s s1 (fillR (s 11) (15 + 3 * e) k (fun _ => 0)) k → ab_Z m_Ha_putOpen (d + 2) (0, 0) (PS fm X s t (upd (fillR (s 11) (15 + 3 * e) 3 (fun _ => 0)) (33 + e) (-2)) 4) 2 [some (.ref 9), some (.int (nI e)), some (.int (nI k))] [] (HA fm X s1 t)) ?_ ?_ s (by rw [fillR_0]; exact Sn.rf s)
  · intro s1 hs
    refine ab_go ok_Ha_putOpen 2 rfl ?_
    show ab_Z m_Ha_putOpen _ _ _ 4 [_, _, _] [_, _] _
    refine ab_go ok_Ha_putOpen 1 rfl ?_
    show ab_Z m_Ha_putOpen _ _ _ 13 [_, _, _] [] _
    refine ab_go ok_Ha_putOpen 4 rfl ?_
    show ab_Z m_Ha_putOpen _ _ _ 17 [_, _, _] [_, _, _] _
    refine ab_cl ok_Ha_putOpen rfl [_, _, _] [] rfl ⟨_, _, rfl, rfl, Or.inl ⟨_, _, rfl, rfl⟩⟩ (Nat.le_of_ble_eq_true rfl) (t_Sc_setSealer d fm X s1 t _ he) ?_
    rintro _ _ ⟨rfl, rfl⟩
    show ab_Z m_Ha_putOpen _ _ _ 18 [_, _, _] [] _
    exact ab_rV ok_Ha_putOpen rfl (⟨rfl, _, rfl, hs.up⟩)
  · intro k hk ih s1 hs
    refine ab_go ok_Ha_putOpen 2 rfl ?_
    show ab_Z m_Ha_putOpen _ _ _ 4 [_, _, _] [_, _] _
    refine ab_br ok_Ha_putOpen rfl rfl ?_ ?_
    · intro h1
      show ab_Z m_Ha_putOpen _ _ _ 13 [_, _, _] [] _
      exact absurd h1 (lp_in (N := 3) (by decide) hk)
    · intro h1
      show ab_Z m_Ha_putOpen _ _ _ 5 [_, _, _] [] _
      refine ab_go ok_Ha_putOpen 5 rfl ?_
      show ab_Z m_Ha_putOpen _ _ _ 10 [_, _, _] [_, _, _, _] _
      refine ab_cl ok_Ha_putOpen rfl [_, _, _, _] [] rfl ⟨_, _, rfl, rfl, Or.inl ⟨_, _, rfl, rfl⟩⟩ (Nat.le_of_ble_eq_true rfl) (t_Sc_setPrint d fm X s1 t _ he hk) ?_
      rintro _ _ ⟨rfl, rfl⟩
      show ab_Z m_Ha_putOpen _ _ _ 11 [_, _, _] [] _
      refine ab_go ok_Ha_putOpen 2 rfl ?_
      show ab_Z m_Ha_putOpen _ _ _ 2 [_, _, _] [] _
      have ih2 := ih _ (by have h9 := hs.up (j := 15 + 3 * e + k) (v := 0); rw [fillR_s (s 11) (15 + 3 * e) k (fun _ => 0)] at h9; exact h9)
      rw [nI_succ] at ih2
      exact ih2
theorem t_Ha_putForgery {e : Nat} (he : e < 6) : ab_T g_Ha_putForgery (d + 2) (0, 0) [.ref 9, .int (nI e)] (HA fm X s t) (PS fm X s t (upd (fillR (s 11) (15 + 3 * e) 3 (fun f => s 20 (3 * e + f))) (33 + e) (-3)) 4) := by
  refine ab_T_of (M := m_Ha_putForgery) rfl rfl (Nat.le_of_ble_eq_true rfl) ?_
  show ab_Z m_Ha_putForgery _ _ _ 0 [_, _, _] [] _
  refine ab_go ok_Ha_putForgery 2 rfl ?_
  show ab_Z m_Ha_putForgery _ _ _ 2 [_, _, _] [] _
  refine lp_dn 3 (fun k => ∀ s1, Sn s s1 (fillR (s 11) (15 + 3 * e) k (fun f => s 20 (3 * e + f))) k → ab_Z m_Ha_putForgery (d + 2) (0, 0) (PS fm X s t (upd (fillR (s 11) (15 + 3 * e) 3 (fun f => s 20 (3 * e + f))) (33 + e) (-3)) 4) 2 [some (.ref 9), some (.int (nI e)), some (.int (nI k))] [] (HA fm X s1 t)) ?_ ?_ s (by rw [fillR_0]; exact Sn.rf s)
  · intro s1 hs
    refine ab_go ok_Ha_putForgery 2 rfl ?_
    show ab_Z m_Ha_putForgery _ _ _ 4 [_, _, _] [_, _] _
    refine ab_go ok_Ha_putForgery 1 rfl ?_
    show ab_Z m_Ha_putForgery _ _ _ 17 [_, _, _] [] _
    refine ab_go ok_Ha_putForgery 4 rfl ?_
    show ab_Z m_Ha_putForgery _ _ _ 21 [_, _, _] [_, _, _] _
    refine ab_cl ok_Ha_putForgery rfl [_, _, _] [] rfl ⟨_, _, rfl, rfl, Or.inl ⟨_, _, rfl, rfl⟩⟩ (Nat.le_of_ble_eq_true rfl) (t_Sc_setSealer d fm X s1 t _ he) ?_
    rintro _ _ ⟨rfl, rfl⟩
    show ab_Z m_Ha_putForgery _ _ _ 22 [_, _, _] [] _
    exact ab_rV ok_Ha_putForgery rfl (⟨rfl, _, rfl, hs.up⟩)
  · intro k hk ih s1 hs
    refine ab_go ok_Ha_putForgery 2 rfl ?_
    show ab_Z m_Ha_putForgery _ _ _ 4 [_, _, _] [_, _] _
    refine ab_br ok_Ha_putForgery rfl rfl ?_ ?_
    · intro h1
      show ab_Z m_Ha_putForgery _ _ _ 17 [_, _, _] [] _
      exact absurd h1 (lp_in (N := 3) (by decide) hk)
    · intro h1
      show ab_Z m_Ha_putForgery _ _ _ 5 [_, _, _] [] _
      refine ab_go ok_Ha_putForgery 8 rfl ?_
      show ab_Z m_Ha_putForgery _ _ _ 13 [_, _, _] [_, _, _, _, _, _] _
      refine ab_cl ok_Ha_putForgery rfl [_, _, _] [_, _, _] rfl ⟨_, _, rfl, rfl, Or.inl ⟨_, _, rfl, rfl⟩⟩ (Nat.le_of_ble_eq_true rfl) (t_Te_needOf d fm X s1 t he hk) ?_
      rintro _ _ ⟨rfl, rfl⟩
      show ab_Z m_Ha_putForgery _ _ _ 14 [_, _, _] [_, _, _, _] _
      rw [hs.2.2 20 (3 * e + k) rfl (by decide) (by decide) (by omega)]
      refine ab_cl ok_Ha_putForgery rfl [_, _, _, _] [] rfl ⟨_, _, rfl, rfl, Or.inl ⟨_, _, rfl, rfl⟩⟩ (Nat.le_of_ble_eq_true rfl) (t_Sc_setPrint d fm X s1 t _ he hk) ?_
      rintro _ _ ⟨rfl, rfl⟩
      show ab_Z m_Ha_putForgery _ _ _ 15 [_, _, _] [] _
      refine ab_go ok_Ha_putForgery 2 rfl ?_
      show ab_Z m_Ha_putForgery _ _ _ 2 [_, _, _] [] _
      have ih2 := ih _ (by have h9 := hs.up (j := 15 + 3 * e + k) (v := s 20 (3 * e + k)); rw [fillR_s (s 11) (15 + 3 * e) k (fun f => s 20 (3 * e + f))] at h9; exact h9)
      rw [nI_succ] at ih2
      exact ih2
theorem t_Ha_putSeal {c e : Nat} (hc : c < 5) (he : e < 6) : ab_T g_Ha_putSeal (d + 2) (0, 0) [.ref 9, .int (nI c), .int (nI e)] (HA fm X s t) (fun v h => v = none ∧ ∃ s', h = HA fm X s' t ∧ s' 13 = s 13 ∧ Sn s s' (upd (fillR (fillR (s 11) (3 * c) 3 (fun f => s 11 (3 * c + f) - s 13 f)) (15 + 3 * e) 3 (s 13)) (33 + e) (nI c)) 7) := by
  refine ab_T_of (M := m_Ha_putSeal) rfl rfl (Nat.le_of_ble_eq_true rfl) ?_
  show ab_Z m_Ha_putSeal _ _ _ 0 [_, _, _, _, _] [] _
  refine ab_go ok_Ha_putSeal 2 rfl ?_
  show ab_Z m_Ha_putSeal _ _ _ 2 [_, _, _, _, _] [] _
  refine lp_dn 3 (fun k => ∀ s1, s1 13 = s 13 → Sn s s1 (fillR (fillR (s 11) (3 * c) k (fun f => s 11 (3 * c + f) - s 13 f)) (15 + 3 * e) k (s 13)) (2 * k) → ab_Z m_Ha_putSeal (d + 2) (0, 0) (fun v h => v = none ∧ ∃ s', h = HA fm X s' t ∧ s' 13 = s 13 ∧ Sn s s' (upd (fillR (fillR (s 11) (3 * c) 3 (fun f => s 11 (3 * c + f) - s 13 f)) (15 + 3 * e) 3 (s 13)) (33 + e) (nI c)) 7) 2 [some (.ref 9), some (.int (nI c)), some (.int (nI e)), some (.int (nI k)), none] [] (HA fm X s1 t)) ?_ ?_ s rfl (by rw [fillR_0, fillR_0]; exact Sn.rf s)
  · intro s1 h13 hs
    refine ab_go ok_Ha_putSeal 2 rfl ?_
    show ab_Z m_Ha_putSeal _ _ _ 4 [_, _, _, _, _] [_, _] _
    refine ab_go ok_Ha_putSeal 1 rfl ?_
    show ab_Z m_Ha_putSeal _ _ _ 30 [_, _, _, _, _] [] _
    refine ab_go ok_Ha_putSeal 4 rfl ?_
    show ab_Z m_Ha_putSeal _ _ _ 34 [_, _, _, _, _] [_, _, _] _
    refine ab_cl ok_Ha_putSeal rfl [_, _, _] [] rfl ⟨_, _, rfl, rfl, Or.inl ⟨_, _, rfl, rfl⟩⟩ (Nat.le_of_ble_eq_true rfl) (t_Sc_setSealer d fm X s1 t _ he) ?_
    rintro _ _ ⟨rfl, rfl⟩
    show ab_Z m_Ha_putSeal _ _ _ 35 [_, _, _, _, _] [] _
    exact ab_rV ok_Ha_putSeal rfl (⟨rfl, _, rfl, by show upSt (ab_up s1 11 (33 + e) (nI c)) 13 = s 13; unfold upSt; rw [ab_up_o (by decide), ab_up_o (by decide)]; exact h13, hs.up⟩)
  · intro k hk ih s1 h13 hs
    refine ab_go ok_Ha_putSeal 2 rfl ?_
    show ab_Z m_Ha_putSeal _ _ _ 4 [_, _, _, _, _] [_, _] _
    refine ab_br ok_Ha_putSeal rfl rfl ?_ ?_
    · intro h1
      show ab_Z m_Ha_putSeal _ _ _ 30 [_, _, _, _, _] [] _
      exact absurd h1 (lp_in (N := 3) (by decide) hk)
    · intro h1
      show ab_Z m_Ha_putSeal _ _ _ 5 [_, _, _, _, _] [] _
      refine ab_go ok_Ha_putSeal 3 rfl ?_
      show ab_Z m_Ha_putSeal _ _ _ 8 [_, _, _, _, _] [_, _] _
      refine ab_cl ok_Ha_putSeal rfl [_, _] [] rfl rfl (Nat.le_of_ble_eq_true rfl) (t_SF_at_13 (d + 1) fm X s1 t _ k hk rfl) ?_
      rintro _ _ ⟨rfl, rfl⟩
      show ab_Z m_Ha_putSeal _ _ _ 9 [_, _, _, _, _] [_] _
      rw [h13]
      refine ab_go ok_Ha_putSeal 9 rfl ?_
      show ab_Z m_Ha_putSeal _ _ _ 18 [_, _, _, _, _] [_, _, _, _, _, _] _
      refine ab_cl ok_Ha_putSeal rfl [_, _, _] [_, _, _] rfl ⟨_, _, rfl, rfl, Or.inl ⟨_, _, rfl, rfl⟩⟩ (Nat.le_of_ble_eq_true rfl) (t_Sc_levelOf d fm X s1 t hc hk) ?_
      rintro _ _ ⟨rfl, rfl⟩
      show ab_Z m_Ha_putSeal _ _ _ 19 [_, _, _, _, _] [_, _, _, _] _
      rw [hs.1, fillR_o (by omega), fillR_o (by omega)]
      refine ab_go ok_Ha_putSeal 2 rfl ?_
      show ab_Z m_Ha_putSeal _ _ _ 21 [_, _, _, _, _] [_, _, _, _] _
      refine ab_cl ok_Ha_putSeal rfl [_, _, _, _] [] rfl ⟨_, _, rfl, rfl, Or.inl ⟨_, _, rfl, rfl⟩⟩ (Nat.le_of_ble_eq_true rfl) (t_Sc_setLevel d fm X s1 t _ hc hk) ?_
      rintro _ _ ⟨rfl, rfl⟩
      show ab_Z m_Ha_putSeal _ _ _ 22 [_, _, _, _, _] [] _
      refine ab_go ok_Ha_putSeal 5 rfl ?_
      show ab_Z m_Ha_putSeal _ _ _ 27 [_, _, _, _, _] [_, _, _, _] _
      refine ab_cl ok_Ha_putSeal rfl [_, _, _, _] [] rfl ⟨_, _, rfl, rfl, Or.inl ⟨_, _, rfl, rfl⟩⟩ (Nat.le_of_ble_eq_true rfl) (t_Sc_setPrint d fm X _ t _ he hk) ?_
      rintro _ _ ⟨rfl, rfl⟩
      show ab_Z m_Ha_putSeal _ _ _ 28 [_, _, _, _, _] [] _
      refine ab_go ok_Ha_putSeal 2 rfl ?_
      show ab_Z m_Ha_putSeal _ _ _ 2 [_, _, _, _, _] [] _
      have ih2 := ih (upSt (ab_up (upSt (ab_up s1 11 (3 * c + k) (s 11 (3 * c + k) - s 13 k))) 11 (15 + 3 * e + k) (s 13 k))) (by unfold upSt; rw [ab_up_o (by decide), ab_up_o (by decide), ab_up_o (by decide), ab_up_o (by decide)]; exact h13) (by
        have h9 := (hs.up (j := 3 * c + k) (v := s 11 (3 * c + k) - s 13 k)).up (j := 15 + 3 * e + k) (v := s 13 k)
        rw [fillR_u (by omega), fillR_s (s 11) (3 * c) k (fun f => s 11 (3 * c + f) - s 13 f), fillR_s _ (15 + 3 * e) k (s 13)] at h9
        rw [show 2 * (k + 1) = 2 * k + 1 + 1 by omega]
        exact h9)
      rw [nI_succ] at ih2
      exact ih2
end

