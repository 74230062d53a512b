abbrev bB (b : Bool) : Int32 := if b then 1 else 0
theorem bB_01 (b : Bool) : bB b = 0 ∨ bB b = 1 := by cases b <;> decide
theorem bB_0 {b : Bool} : bB b = 0 ↔ b = false := by cases b <;> decide
theorem bB_n0 {b : Bool} (h : ¬ bB b = 0) : b = true := by cases b; exact absurd rfl h; rfl
def nsV (s : Nat → Nat → Int32) (nd c : Nat) : Int32 := bcF (nI (bitsN (fun k => decide (s 11 (33 + k) = nI c)) nd))
def tkV (s : Nat → Nat → Int32) (P : List (List Ins)) (c e f : Nat) (l n : Int32) : Int32 := tkF P (s 20 (3 * e + f)) l (s 16 c + s 11 39) (s 19 e) (nI f) (s 11 39) n (nI c)
def TV (s : Nat → Nat → Int32) (P : List (List Ins)) (nd c e f : Nat) : Int32 := tkV s P c e f (s 11 (3 * c + f)) (nsV s nd c)
def leftV (s : Nat → Nat → Int32) (P : List (List Ins)) (nd c e : Nat) : Nat → Int32
  | 0 => 0
  | k + 1 => leftV s P nd c e k + (s 11 (3 * c + k) - TV s P nd c e k)
def enB (s : Nat → Nat → Int32) (P : List (List Ins)) (nd c e : Nat) : Nat → Bool
  | 0 => decide (s 11 (33 + e) = -2)
  | k + 1 => enB s P nd c e k && !decide (s 11 (3 * c + k) < TV s P nd c e k)
def canB (s : Nat → Nat → Int32) (P : List (List Ins)) (nd c e : Nat) : Bool := enB s P nd c e 3 && decide (0 < leftV s P nd c e 3)
theorem nsV_kp {s s' : Nat → Nat → Int32} (h : Kp2 s s') (nd c : Nat) : nsV s' nd c = nsV s nd c := by
  unfold nsV
  rw [bitsN_cg (fun k _ => by rw [h 11 _ rfl (by decide)])]
theorem tkV_kp {s s' : Nat → Nat → Int32} (h : Kp2 s s') (P : List (List Ins)) (c e f : Nat) (l n : Int32) : tkV s' P c e f l n = tkV s P c e f l n := by
  unfold tkV
  rw [h 20 _ rfl (by decide), h 16 _ rfl (by decide), h 11 39 rfl (by decide), h 19 _ rfl (by decide)]
theorem TV_kp {s s' : Nat → Nat → Int32} (h : Kp2 s s') (P : List (List Ins)) (nd c e f : Nat) : TV s' P nd c e f = TV s P nd c e f := by
  unfold TV
  rw [tkV_kp h, nsV_kp h, h 11 _ rfl (by decide)]
theorem leftV_kp {s s' : Nat → Nat → Int32} (h : Kp2 s s') (P : List (List Ins)) (nd c e : Nat) : ∀ k, leftV s' P nd c e k = leftV s P nd c e k
  | 0 => rfl
  | k + 1 => by rw [leftV, leftV, leftV_kp h P nd c e k, TV_kp h, h 11 _ rfl (by decide)]
theorem enB_kp {s s' : Nat → Nat → Int32} (h : Kp2 s s') (P : List (List Ins)) (nd c e : Nat) : ∀ k, enB s' P nd c e k = enB s P nd c e k
  | 0 => by rw [enB, enB, h 11 _ rfl (by decide)]
  | k + 1 => by rw [enB, enB, enB_kp h P nd c e k, TV_kp h, h 11 _ rfl (by decide)]
theorem canB_kp {s s' : Nat → Nat → Int32} (h : Kp2 s s') (P : List (List Ins)) (nd c e : Nat) : canB s' P nd c e = canB s P nd c e := by
  unfold canB
  rw [enB_kp h, leftV_kp h]
section
variable (d : Nat) (fm : Value) (X : Nat × (Nat → Int32)) (s : Nat → Nat → Int32) (t : Nat → Nat → Int64)
theorem t_Ha_isOpen' {n e : Nat} (he : e < n) (hn : s 14 12 = nI n) (hn6 : n ≤ 6) : ab_T g_Ha_isOpen (d + 1) (0, 0) [.ref 9, .int (nI e)] (HA fm X s t) (PI (bB (decide (s 11 (33 + e) = -2))) (HA fm X s t)) := by
  refine ab_T_mono (t_Ha_isOpen d fm X s t (nI e) hn hn6) fun v h hp => ⟨?_, hp.2⟩
  rw [hp.1, nI_t (by omega), nI_c (by omega)]
  unfold bI bB
  by_cases hx : s 11 (33 + e) = -2
  · rw [if_pos ⟨⟨by omega, by omega⟩, hx⟩, if_pos (decide_eq_true hx)]
  · rw [if_neg (fun z => hx z.2), if_neg (by simp [hx])]
theorem t_Ha_takesNow {P : List (List Ins)} (hL : CLaw s 22 P) {n c e f : Nat} (hn : s 14 12 = nI n) (hn6 : n ≤ 6) (hc : c < 5) (he : e < 6) (hf : f < 3) : ab_T g_Ha_takesNow (d + 4) (0, 0) [.ref 9, .int (nI c), .int (nI e), .int (nI f)] (HA fm X s t) (PK (TV s P n c e f) fm X s t) := by
  refine ab_T_of (M := m_Ha_takesNow) rfl rfl (Nat.le_of_ble_eq_true rfl) ?_
  show ab_Z m_Ha_takesNow _ _ _ 0 [_, _, _, _] [] _
  refine ab_go ok_Ha_takesNow 8 rfl ?_
  show ab_Z m_Ha_takesNow _ _ _ 8 [_, _, _, _] [_, _, _, _, _, _, _] _
  refine ab_cl ok_Ha_takesNow rfl [_, _, _] [_, _, _, _] rfl ⟨_, _, rfl, rfl, Or.inl ⟨_, _, rfl, rfl⟩⟩ (Nat.le_of_ble_eq_true rfl) (t_Sc_levelOf (d + 2) fm X s t hc hf) ?_
  rintro _ _ ⟨rfl, rfl⟩
  show ab_Z m_Ha_takesNow _ _ _ 9 [_, _, _, _] [_, _, _, _, _] _
  refine ab_go ok_Ha_takesNow 2 rfl ?_
  show ab_Z m_Ha_takesNow _ _ _ 11 [_, _, _, _] [_, _, _, _, _, _, _] _
  refine ab_cl ok_Ha_takesNow rfl [_, _] [_, _, _, _, _] rfl ⟨_, _, rfl, rfl, Or.inl ⟨_, _, rfl, rfl⟩⟩ (Nat.le_of_ble_eq_true rfl) (t_Ha_sealedBy (d + 1) fm X s t _ hn hn6) ?_
  rintro _ _ ⟨rfl, rfl⟩
  show ab_Z m_Ha_takesNow _ _ _ 12 [_, _, _, _] [_, _, _, _, _, _] _
  refine ab_cl ok_Ha_takesNow rfl [_, _, _, _, _, _] [] rfl ⟨_, _, rfl, rfl, Or.inl ⟨_, _, rfl, rfl⟩⟩ (Nat.le_of_ble_eq_true rfl) (t_Ha_takesOf d fm X s t hL hc he hf _ _) ?_
  rintro _ _ ⟨rfl, s2, rfl, hk⟩
  show ab_Z m_Ha_takesNow _ _ _ 13 [_, _, _, _] [_] _
  exact ab_rI ok_Ha_takesNow rfl (⟨rfl, s2, rfl, hk⟩)
theorem t_Ha_canSeal {P : List (List Ins)} (hL : CLaw s 22 P) {n c e : Nat} (hn : s 14 12 = nI n) (hn6 : n ≤ 6) (hc : c < 5) (he : e < n) : ab_T g_Ha_canSeal (d + 4) (0, 0) [.ref 9, .int (nI c), .int (nI e)] (HA fm X s t) (fun v h => v = some (.int (bB (canB s P n c e))) ∧ ∃ s', h = HA fm X s' t ∧ Kp2 s s' ∧ ∀ f, f < 3 → s' 13 f = TV s P n c e f) := by
  refine ab_T_of (M := m_Ha_canSeal) rfl rfl (Nat.le_of_ble_eq_true rfl) ?_
  show ab_Z m_Ha_canSeal _ _ _ 0 [_, _, _, _, _, _, _, _, _] [] _
  refine ab_go ok_Ha_canSeal 2 rfl ?_
  show ab_Z m_Ha_canSeal _ _ _ 2 [_, _, _, _, _, _, _, _, _] [_, _] _
  refine ab_cl ok_Ha_canSeal rfl [_, _] [] rfl ⟨_, _, rfl, rfl, Or.inl ⟨_, _, rfl, rfl⟩⟩ (Nat.le_of_ble_eq_true rfl) (t_Ha_isOpen' (d + 2) fm X s t he hn hn6) ?_
  rintro _ _ ⟨rfl, rfl⟩
  show ab_Z m_Ha_canSeal _ _ _ 3 [_, _, _, _, _, _, _, _, _] [_] _
  refine ab_go ok_Ha_canSeal 5 rfl ?_
  show ab_Z m_Ha_canSeal _ _ _ 8 [_, _, _, _, _, _, _, _, _] [_, _] _
  refine ab_cl ok_Ha_canSeal rfl [_, _] [] rfl ⟨_, _, rfl, rfl, Or.inl ⟨_, _, rfl, rfl⟩⟩ (Nat.le_of_ble_eq_true rfl) (t_Ha_sealedBy (d + 1) fm X s t _ hn hn6) ?_
  rintro _ _ ⟨rfl, rfl⟩
  show ab_Z m_Ha_canSeal _ _ _ 9 [_, _, _, _, _, _, _, _, _] [_] _
  refine ab_go ok_Ha_canSeal 3 rfl ?_
  show ab_Z m_Ha_canSeal _ _ _ 12 [_, _, _, _, _, _, _, _, _] [] _
  refine lp_dn 3 (fun k => ∀ s1, Kp2 s s1 → (∀ f, f < k → s1 13 f = TV s P n c e f) → ab_Z m_Ha_canSeal (d + 4) (0, 0) (fun v h => v = some (.int (bB (canB s P n c e))) ∧ ∃ s', h = HA fm X s' t ∧ Kp2 s s' ∧ ∀ f, f < 3 → s' 13 f = TV s P n c e f) 12 [some (.ref 9), some (.int (nI c)), some (.int (nI e)), some (.int (bB (enB s P n c e k))), some (.int (leftV s P n c e k)), some (.int (nsV s n c)), some (.int (nI k)), none, none] [] (HA fm X s1 t)) ?_ ?_ s (Kp2.rf s) (fun f hf => absurd hf (Nat.not_lt_zero f))
  · intro s1 hk hw
    refine ab_go ok_Ha_canSeal 2 rfl ?_
    show ab_Z m_Ha_canSeal _ _ _ 14 [_, _, _, _, _, _, _, _, _] [_, _] _
    refine ab_go ok_Ha_canSeal 1 rfl ?_
    show ab_Z m_Ha_canSeal _ _ _ 51 [_, _, _, _, _, _, _, _, _] [] _
    refine ab_go ok_Ha_canSeal 1 rfl ?_
    show ab_Z m_Ha_canSeal _ _ _ 52 [_, _, _, _, _, _, _, _, _] [_] _
    refine ab_br ok_Ha_canSeal rfl rfl ?_ ?_
    · intro h1
      show ab_Z m_Ha_canSeal _ _ _ 57 [_, _, _, _, _, _, _, _, _] [] _
      refine ab_go ok_Ha_canSeal 1 rfl ?_
      show ab_Z m_Ha_canSeal _ _ _ 58 [_, _, _, _, _, _, _, _, _] [_] _
      exact ab_rZ ok_Ha_canSeal rfl (by first | decide | exact bB_01 _ | exact bI_01 _) (⟨by rw [show canB s P n c e = false by unfold canB; rw [bB_0.mp h1]; rfl]; rfl, s1, rfl, hk, hw⟩)
    · intro h1
      show ab_Z m_Ha_canSeal _ _ _ 53 [_, _, _, _, _, _, _, _, _] [] _
      refine ab_go ok_Ha_canSeal 1 rfl ?_
      show ab_Z m_Ha_canSeal _ _ _ 54 [_, _, _, _, _, _, _, _, _] [_] _
      refine ab_br ok_Ha_canSeal rfl rfl ?_ ?_
      · intro h2
        show ab_Z m_Ha_canSeal _ _ _ 57 [_, _, _, _, _, _, _, _, _] [] _
        refine ab_go ok_Ha_canSeal 1 rfl ?_
        show ab_Z m_Ha_canSeal _ _ _ 58 [_, _, _, _, _, _, _, _, _] [_] _
        exact ab_rZ ok_Ha_canSeal rfl (by first | decide | exact bB_01 _ | exact bI_01 _) (⟨by rw [show canB s P n c e = false by unfold canB; rw [decide_eq_false (fun z => absurd (i_lt z) (by have := i_le h2; omega))]; exact Bool.and_false _]; rfl, s1, rfl, hk, hw⟩)
      · intro h2
        show ab_Z m_Ha_canSeal _ _ _ 55 [_, _, _, _, _, _, _, _, _] [] _
        refine ab_go ok_Ha_canSeal 2 rfl ?_
        show ab_Z m_Ha_canSeal _ _ _ 58 [_, _, _, _, _, _, _, _, _] [_] _
        exact ab_rZ ok_Ha_canSeal rfl (by first | decide | exact bB_01 _ | exact bI_01 _) (⟨by rw [show canB s P n c e = true by unfold canB; rw [bB_n0 h1, decide_eq_true (Int32.lt_iff_toInt_lt.mpr (i_nle h2))]; rfl]; rfl, s1, rfl, hk, hw⟩)
  · intro k hk3 ih s1 hk hw
    refine ab_go ok_Ha_canSeal 2 rfl ?_
    show ab_Z m_Ha_canSeal _ _ _ 14 [_, _, _, _, _, _, _, _, _] [_, _] _
    refine ab_br ok_Ha_canSeal rfl rfl ?_ ?_
    · intro h1
      show ab_Z m_Ha_canSeal _ _ _ 51 [_, _, _, _, _, _, _, _, _] [] _
      exact absurd h1 (lp_in (N := 3) (by decide) hk3)
    · intro h1
      show ab_Z m_Ha_canSeal _ _ _ 15 [_, _, _, _, _, _, _, _, _] [] _
      refine ab_go ok_Ha_canSeal 4 rfl ?_
      show ab_Z m_Ha_canSeal _ _ _ 19 [_, _, _, _, _, _, _, _, _] [_, _, _] _
      refine ab_cl ok_Ha_canSeal rfl [_, _, _] [] rfl ⟨_, _, rfl, rfl, Or.inl ⟨_, _, rfl, rfl⟩⟩ (Nat.le_of_ble_eq_true rfl) (t_Sc_levelOf (d + 2) fm X s1 t hc hk3) ?_
      rintro _ _ ⟨rfl, rfl⟩
      show ab_Z m_Ha_canSeal _ _ _ 20 [_, _, _, _, _, _, _, _, _] [_] _
      rw [hk 11 _ rfl (by decide)]
      refine ab_go ok_Ha_canSeal 7 rfl ?_
      show ab_Z m_Ha_canSeal _ _ _ 27 [_, _, _, _, _, _, _, _, _] [_, _, _, _, _, _] _
      refine ab_cl ok_Ha_canSeal rfl [_, _, _, _, _, _] [] rfl ⟨_, _, rfl, rfl, Or.inl ⟨_, _, rfl, rfl⟩⟩ (Nat.le_of_ble_eq_true rfl) (t_Ha_takesOf d fm X s1 t (CLaw_kp (by simp) hk hL) hc (show e < 6 by omega) hk3 _ _) ?_
      rintro _ _ ⟨rfl, s2, rfl, hk1⟩
      show ab_Z m_Ha_canSeal _ _ _ 28 [_, _, _, _, _, _, _, _, _] [_] _
      have hk2 := hk.tr hk1.to2
      rw [show tkF P (s1 20 (3 * e + k)) (s 11 (3 * c + k)) (s1 16 c + s1 11 39) (s1 19 e) (nI k) (s1 11 39) (nsV s n c) (nI c) = TV s P n c e k from tkV_kp hk P c e k _ _]
      refine ab_go ok_Ha_canSeal 5 rfl ?_
      show ab_Z m_Ha_canSeal _ _ _ 33 [_, _, _, _, _, _, _, _, _] [_, _, _] _
      refine ab_cl ok_Ha_canSeal rfl [_, _, _] [] rfl rfl (Nat.le_of_ble_eq_true rfl) (t_SF_put_13 (d + 3) fm X s2 t _ k _ (by omega) rfl) ?_
      rintro _ _ ⟨rfl, rfl⟩
      show ab_Z m_Ha_canSeal _ _ _ 34 [_, _, _, _, _, _, _, _, _] [] _
      refine ab_go ok_Ha_canSeal 7 rfl ?_
      show ab_Z m_Ha_canSeal _ _ _ 41 [_, _, _, _, _, _, _, _, _] [_] _
      have ih2 := ih (ab_up s2 13 k (TV s P n c e k)) hk2.w (fun f hf => by
        by_cases hfk : f = k
        · subst hfk; rw [ab_up_s]
        · rw [ab_up_n hfk]
          exact (hk1 13 f rfl).trans (hw f (by omega)))
      rw [nI_succ] at ih2
      refine ab_br ok_Ha_canSeal rfl rfl ?_ ?_
      · intro h2
        show ab_Z m_Ha_canSeal _ _ _ 47 [_, _, _, _, _, _, _, _, _] [] _
        refine ab_go ok_Ha_canSeal 4 rfl ?_
        show ab_Z m_Ha_canSeal _ _ _ 12 [_, _, _, _, _, _, _, _, _] [] _
        rw [enB, bB_0.mp h2] at ih2
        exact ih2
      · intro h2
        show ab_Z m_Ha_canSeal _ _ _ 42 [_, _, _, _, _, _, _, _, _] [] _
        refine ab_go ok_Ha_canSeal 2 rfl ?_
        show ab_Z m_Ha_canSeal _ _ _ 44 [_, _, _, _, _, _, _, _, _] [_, _] _
        refine ab_br ok_Ha_canSeal rfl rfl ?_ ?_
        · intro h3
          show ab_Z m_Ha_canSeal _ _ _ 47 [_, _, _, _, _, _, _, _, _] [] _
          refine ab_go ok_Ha_canSeal 4 rfl ?_
          show ab_Z m_Ha_canSeal _ _ _ 12 [_, _, _, _, _, _, _, _, _] [] _
          rw [enB, decide_eq_true h3, Bool.not_true, Bool.and_false] at ih2
          exact ih2
        · intro h3
          show ab_Z m_Ha_canSeal _ _ _ 45 [_, _, _, _, _, _, _, _, _] [] _
          refine ab_go ok_Ha_canSeal 5 rfl ?_
          show ab_Z m_Ha_canSeal _ _ _ 12 [_, _, _, _, _, _, _, _, _] [] _
          rw [enB, decide_eq_false h3, bB_n0 h2] at ih2
          exact ih2
end

