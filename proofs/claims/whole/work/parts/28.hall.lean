abbrev P2 (r : Int32) (fm : Value) (X : Nat × (Nat → Int32)) (s : Nat → Nat → Int32) (t : Nat → Nat → Int64) : Option Value → ab_H → Prop := fun v h => v = some (.int r) ∧ ∃ s', h = HA fm X s' t ∧ Kp2 s s'
/-- who sealed, and the treaties' deeds, are in range -/
def SI (s : Nat → Nat → Int32) (nc nd nt : Nat) : Prop := (∀ e, e < nd → s 11 (33 + e) = -2 ∨ s 11 (33 + e) = -3 ∨ ∃ c, c < nc ∧ s 11 (33 + e) = nI c) ∧ ∀ k, k < nt → ∀ i, i < 2 → ∃ e, e < nd ∧ s 21 (2 * k + i) = nI e
theorem SI.kp {s s' : Nat → Nat → Int32} {nc nd nt : Nat} (h : Kp2 s s') (hI : SI s nc nd nt) : SI s' nc nd nt := by
  refine ⟨fun e he => ?_, fun k hk i hi => ?_⟩
  · rw [h 11 _ rfl (by decide)]; exact hI.1 e he
  · rw [h 21 _ rfl (by decide)]; exact hI.2 k hk i hi
theorem SI.sl {s : Nat → Nat → Int32} {nc nd nt e : Nat} (hI : SI s nc nd nt) (he : e < nd) (hn : ¬ s 11 (33 + e) < 0) : ∃ c, c < nc ∧ s 11 (33 + e) = nI c := by
  rcases hI.1 e he with h | h | h
  · exact absurd (show s 11 (33 + e) < 0 by rw [h]; decide) hn
  · exact absurd (show s 11 (33 + e) < 0 by rw [h]; decide) hn
  · exact h
def grV (s : Nat → Nat → Int32) (PG : List (List Ins)) (nd c f : Nat) (l y : Int32) : Int32 := if s 17 (3 * c + f) < l + grF PG l (s 16 c + y) (nI f) y (nsV s nd c) (nI c) then s 17 (3 * c + f) else l + grF PG l (s 16 c + y) (nI f) y (nsV s nd c) (nI c)
def fdV (s : Nat → Nat → Int32) (PF : List (List Ins)) (e f : Nat) (p y : Int32) : Int32 := if p - fdF PF (s 20 (3 * e + f)) (s 19 e) (nI f) y (nI e) p < 0 then 0 else p - fdF PF (s 20 (3 * e + f)) (s 19 e) (nI f) y (nI e) p
def levA (s : Nat → Nat → Int32) (PG : List (List Ins)) (nd c f : Nat) : Nat → Int32
  | 0 => s 11 (3 * c + f)
  | k + 1 => grV s PG nd c f (levA s PG nd c f k) (s 11 39 + nI k)
def prtA (s : Nat → Nat → Int32) (PF : List (List Ins)) (e f : Nat) : Nat → Int32
  | 0 => s 11 (15 + 3 * e + f)
  | k + 1 => if prtA s PF e f k ≤ 0 then prtA s PF e f k else fdV s PF e f (prtA s PF e f k) (s 11 39 + nI k)
def prsA (s : Nat → Nat → Int32) (PF : List (List Ins)) (e n : Nat) : Nat → Int32
  | 0 => 0
  | f + 1 => prsA s PF e n f + prtA s PF e f n
def bdV (s : Nat → Nat → Int32) (PB PF : List (List Ins)) (nd e n : Nat) : Int32 := if s 11 (33 + e) < 0 then 0 else bdF PB (s 16 (s 11 (33 + e)).toNatClampNeg + (s 11 39 + nI n)) (s 19 e) (s 11 39 + nI n) (nsV s nd (s 11 (33 + e)).toNatClampNeg) (s 11 (33 + e)) (prsA s PF e n 3)
def sumV (f : Nat → Int32) : Nat → Int32
  | 0 => 0
  | n + 1 => sumV f n + f n
theorem sumV_cg {f g : Nat → Int32} : ∀ {n : Nat}, (∀ k, k < n → f k = g k) → sumV f n = sumV g n
  | 0, _ => rfl
  | n + 1, h => by rw [sumV, sumV, sumV_cg (fun k hk => h k (by omega)), h n (by omega)]
theorem grV_kp {s s' : Nat → Nat → Int32} (h : Kp2 s s') (PG : List (List Ins)) (nd c f : Nat) (l y : Int32) : grV s' PG nd c f l y = grV s PG nd c f l y := by
  unfold grV
  rw [nsV_kp h, h 17 _ rfl (by decide), h 16 _ rfl (by decide)]
theorem fdV_kp {s s' : Nat → Nat → Int32} (h : Kp2 s s') (PF : List (List Ins)) (e f : Nat) (p y : Int32) : fdV s' PF e f p y = fdV s PF e f p y := by
  unfold fdV
  rw [h 20 _ rfl (by decide), h 19 _ rfl (by decide)]
theorem levA_kp {s s' : Nat → Nat → Int32} (h : Kp2 s s') (PG : List (List Ins)) (nd c f : Nat) : ∀ k, levA s' PG nd c f k = levA s PG nd c f k
  | 0 => h 11 _ rfl (by decide)
  | k + 1 => by rw [levA, levA, levA_kp h PG nd c f k, grV_kp h, h 11 39 rfl (by decide)]
theorem prtA_kp {s s' : Nat → Nat → Int32} (h : Kp2 s s') (PF : List (List Ins)) (e f : Nat) : ∀ k, prtA s' PF e f k = prtA s PF e f k
  | 0 => h 11 _ rfl (by decide)
  | k + 1 => by rw [prtA, prtA, prtA_kp h PF e f k, fdV_kp h, h 11 39 rfl (by decide)]
theorem prsA_kp {s s' : Nat → Nat → Int32} (h : Kp2 s s') (PF : List (List Ins)) (e n : Nat) : ∀ k, prsA s' PF e n k = prsA s PF e n k
  | 0 => rfl
  | k + 1 => by rw [prsA, prsA, prsA_kp h PF e n k, prtA_kp h]
theorem bdV_kp {s s' : Nat → Nat → Int32} (h : Kp2 s s') (PB PF : List (List Ins)) (nd e n : Nat) : bdV s' PB PF nd e n = bdV s PB PF nd e n := by
  unfold bdV
  rw [prsA_kp h, h 11 (33 + e) rfl (by decide), nsV_kp h, h 16 _ rfl (by decide), h 11 39 rfl (by decide), h 19 _ rfl (by decide)]
theorem prtA_stop {s : Nat → Nat → Int32} {PF : List (List Ins)} {e f k : Nat} (h : prtA s PF e f k ≤ 0) : ∀ j, prtA s PF e f (k + j) = prtA s PF e f k
  | 0 => rfl
  | j + 1 => by
    have ih := prtA_stop h j
    rw [← Nat.add_assoc, prtA, ih, if_pos h]
section
variable (d : Nat) (fm : Value) (X : Nat × (Nat → Int32)) (s : Nat → Nat → Int32) (t : Nat → Nat → Int64)
theorem t_Ha_levelAfter {P : List (List Ins)} (hL : CLaw s 26 P) {nd c f n : Nat} (hn : s 14 12 = nI nd) (hn6 : nd ≤ 6) (hc : c < 5) (hf : f < 3) (hm : n < 1000) : ab_T g_Ha_levelAfter (d + 4) (0, 0) [.ref 9, .int (nI c), .int (nI f), .int (nI n)] (HA fm X s t) (PK (levA s P nd c f n) fm X s t) := by
  refine ab_T_of (M := m_Ha_levelAfter) rfl rfl (Nat.le_of_ble_eq_true rfl) ?_
  show ab_Z m_Ha_levelAfter _ _ _ 0 [_, _, _, _, _, _, _] [] _
  refine ab_go ok_Ha_levelAfter 4 rfl ?_
  show ab_Z m_Ha_levelAfter _ _ _ 4 [_, _, _, _, _, _, _] [_, _, _] _
  refine ab_cl ok_Ha_levelAfter rfl [_, _, _] [] rfl ⟨_, _, rfl, rfl, Or.inl ⟨_, _, rfl, rfl⟩⟩ (Nat.le_of_ble_eq_true rfl) (t_Sc_levelOf (d + 2) fm X s t hc hf) ?_
  rintro _ _ ⟨rfl, rfl⟩
  show ab_Z m_Ha_levelAfter _ _ _ 5 [_, _, _, _, _, _, _] [_] _
  refine ab_go ok_Ha_levelAfter 3 rfl ?_
  show ab_Z m_Ha_levelAfter _ _ _ 8 [_, _, _, _, _, _, _] [_, _] _
  refine ab_cl ok_Ha_levelAfter rfl [_, _] [] rfl ⟨_, _, rfl, rfl, Or.inl ⟨_, _, rfl, rfl⟩⟩ (Nat.le_of_ble_eq_true rfl) (t_Ha_sealedBy (d + 1) fm X s t _ hn hn6) ?_
  rintro _ _ ⟨rfl, rfl⟩
  show ab_Z m_Ha_levelAfter _ _ _ 9 [_, _, _, _, _, _, _] [_] _
  refine ab_go ok_Ha_levelAfter 3 rfl ?_
  show ab_Z m_Ha_levelAfter _ _ _ 12 [_, _, _, _, _, _, _] [] _
  refine lp_dn n (fun k => ∀ s1, Kp1 s s1 → ab_Z m_Ha_levelAfter (d + 4) (0, 0) (PK (levA s P nd c f n) fm X s t) 12 [some (.ref 9), some (.int (nI c)), some (.int (nI f)), some (.int (nI n)), some (.int (levA s P nd c f k)), some (.int (nsV s nd c)), some (.int (nI k))] [] (HA fm X s1 t)) ?_ ?_ s (Kp1.rf s)
  · intro s1 hk
    refine ab_go ok_Ha_levelAfter 2 rfl ?_
    show ab_Z m_Ha_levelAfter _ _ _ 14 [_, _, _, _, _, _, _] [_, _] _
    refine ab_br ok_Ha_levelAfter rfl rfl ?_ ?_
    · intro h1
      show ab_Z m_Ha_levelAfter _ _ _ 29 [_, _, _, _, _, _, _] [] _
      refine ab_go ok_Ha_levelAfter 1 rfl ?_
      show ab_Z m_Ha_levelAfter _ _ _ 30 [_, _, _, _, _, _, _] [_] _
      exact ab_rI ok_Ha_levelAfter rfl (⟨rfl, s1, rfl, hk⟩)
    · intro h1
      show ab_Z m_Ha_levelAfter _ _ _ 15 [_, _, _, _, _, _, _] [] _
      exact absurd (lp_out n) h1
  · intro k hkn ih s1 hk
    refine ab_go ok_Ha_levelAfter 2 rfl ?_
    show ab_Z m_Ha_levelAfter _ _ _ 14 [_, _, _, _, _, _, _] [_, _] _
    refine ab_br ok_Ha_levelAfter rfl rfl ?_ ?_
    · intro h1
      show ab_Z m_Ha_levelAfter _ _ _ 29 [_, _, _, _, _, _, _] [] _
      exact absurd h1 (lp_in (by omega) hkn)
    · intro h1
      show ab_Z m_Ha_levelAfter _ _ _ 15 [_, _, _, _, _, _, _] [] _
      refine ab_go ok_Ha_levelAfter 7 rfl ?_
      show ab_Z m_Ha_levelAfter _ _ _ 22 [_, _, _, _, _, _, _] [_, _, _, _, _, _] _
      refine ab_cl ok_Ha_levelAfter rfl [_] [_, _, _, _, _] rfl ⟨_, _, rfl, rfl, Or.inl ⟨_, _, rfl, rfl⟩⟩ (Nat.le_of_ble_eq_true rfl) (t_Sc_yearNow (d + 3) fm X s1 t) ?_
      rintro _ _ ⟨rfl, rfl⟩
      show ab_Z m_Ha_levelAfter _ _ _ 23 [_, _, _, _, _, _, _] [_, _, _, _, _, _] _
      refine ab_go ok_Ha_levelAfter 2 rfl ?_
      show ab_Z m_Ha_levelAfter _ _ _ 25 [_, _, _, _, _, _, _] [_, _, _, _, _, _] _
      refine ab_cl ok_Ha_levelAfter rfl [_, _, _, _, _, _] [] rfl ⟨_, _, rfl, rfl, Or.inl ⟨_, _, rfl, rfl⟩⟩ (Nat.le_of_ble_eq_true rfl) (t_Ha_grown d fm X s1 t (CLaw_kp (by simp) hk.to2 hL) hc hf _ _ _) ?_
      rintro _ _ ⟨rfl, s2, rfl, hk2⟩
      show ab_Z m_Ha_levelAfter _ _ _ 26 [_, _, _, _, _, _, _] [_] _
      have ih2 := ih s2 (hk.tr hk2)
      rw [levA, nI_succ] at ih2
      rw [show s1 11 39 = s 11 39 from hk 11 39 rfl, show s1 17 (3 * c + f) = s 17 (3 * c + f) from hk 17 _ rfl, show s1 16 c = s 16 c from hk 16 _ rfl]
      refine ab_go ok_Ha_levelAfter 3 rfl ?_
      show ab_Z m_Ha_levelAfter _ _ _ 12 [_, _, _, _, _, _, _] [] _
      exact ih2
theorem t_Ha_printAfter {P : List (List Ins)} (hL : CLaw s 34 P) {e f n : Nat} (he : e < 6) (hf : f < 3) (hm : n < 1000) : ab_T g_Ha_printAfter (d + 4) (0, 0) [.ref 9, .int (nI e), .int (nI f), .int (nI n)] (HA fm X s t) (PK (prtA s P e f n) fm X s t) := by
  refine ab_T_of (M := m_Ha_printAfter) rfl rfl (Nat.le_of_ble_eq_true rfl) ?_
  show ab_Z m_Ha_printAfter _ _ _ 0 [_, _, _, _, _, _] [] _
  refine ab_go ok_Ha_printAfter 4 rfl ?_
  show ab_Z m_Ha_printAfter _ _ _ 4 [_, _, _, _, _, _] [_, _, _] _
  refine ab_cl ok_Ha_printAfter rfl [_, _, _] [] rfl ⟨_, _, rfl, rfl, Or.inl ⟨_, _, rfl, rfl⟩⟩ (Nat.le_of_ble_eq_true rfl) (t_Sc_printOf (d + 2) fm X s t he hf) ?_
  rintro _ _ ⟨rfl, rfl⟩
  show ab_Z m_Ha_printAfter _ _ _ 5 [_, _, _, _, _, _] [_] _
  refine ab_go ok_Ha_printAfter 3 rfl ?_
  show ab_Z m_Ha_printAfter _ _ _ 8 [_, _, _, _, _, _] [] _
  refine lp_dn n (fun k => ∀ s1, Kp1 s s1 → ab_Z m_Ha_printAfter (d + 4) (0, 0) (PK (prtA s P e f n) fm X s t) 8 [some (.ref 9), some (.int (nI e)), some (.int (nI f)), some (.int (nI n)), some (.int (prtA s P e f k)), some (.int (nI k))] [] (HA fm X s1 t)) ?_ ?_ s (Kp1.rf s)
  · intro s1 hk
    refine ab_go ok_Ha_printAfter 2 rfl ?_
    show ab_Z m_Ha_printAfter _ _ _ 10 [_, _, _, _, _, _] [_, _] _
    refine ab_br ok_Ha_printAfter rfl rfl ?_ ?_
    · intro h1
      show ab_Z m_Ha_printAfter _ _ _ 26 [_, _, _, _, _, _] [] _
      refine ab_go ok_Ha_printAfter 1 rfl ?_
      show ab_Z m_Ha_printAfter _ _ _ 27 [_, _, _, _, _, _] [_] _
      exact ab_rI ok_Ha_printAfter rfl (⟨rfl, s1, rfl, hk⟩)
    · intro h1
      show ab_Z m_Ha_printAfter _ _ _ 11 [_, _, _, _, _, _] [] _
      exact absurd (lp_out n) h1
  · intro k hkn ih s1 hk
    refine ab_go ok_Ha_printAfter 2 rfl ?_
    show ab_Z m_Ha_printAfter _ _ _ 10 [_, _, _, _, _, _] [_, _] _
    refine ab_br ok_Ha_printAfter rfl rfl ?_ ?_
    · intro h1
      show ab_Z m_Ha_printAfter _ _ _ 26 [_, _, _, _, _, _] [] _
      exact absurd h1 (lp_in (by omega) hkn)
    · intro h1
      show ab_Z m_Ha_printAfter _ _ _ 11 [_, _, _, _, _, _] [] _
      refine ab_go ok_Ha_printAfter 1 rfl ?_
      show ab_Z m_Ha_printAfter _ _ _ 12 [_, _, _, _, _, _] [_] _
      refine ab_br ok_Ha_printAfter rfl rfl ?_ ?_
      · intro h2
        show ab_Z m_Ha_printAfter _ _ _ 26 [_, _, _, _, _, _] [] _
        refine ab_go ok_Ha_printAfter 1 rfl ?_
        show ab_Z m_Ha_printAfter _ _ _ 27 [_, _, _, _, _, _] [_] _
        exact ab_rI ok_Ha_printAfter rfl (⟨by rw [← prtA_stop h2 (n - k), show k + (n - k) = n by omega], s1, rfl, hk⟩)
      · intro h2
        show ab_Z m_Ha_printAfter _ _ _ 13 [_, _, _, _, _, _] [] _
        refine ab_go ok_Ha_printAfter 6 rfl ?_
        show ab_Z m_Ha_printAfter _ _ _ 19 [_, _, _, _, _, _] [_, _, _, _, _] _
        refine ab_cl ok_Ha_printAfter rfl [_] [_, _, _, _] rfl ⟨_, _, rfl, rfl, Or.inl ⟨_, _, rfl, rfl⟩⟩ (Nat.le_of_ble_eq_true rfl) (t_Sc_yearNow (d + 3) fm X s1 t) ?_
        rintro _ _ ⟨rfl, rfl⟩
        show ab_Z m_Ha_printAfter _ _ _ 20 [_, _, _, _, _, _] [_, _, _, _, _] _
        refine ab_go ok_Ha_printAfter 2 rfl ?_
        show ab_Z m_Ha_printAfter _ _ _ 22 [_, _, _, _, _, _] [_, _, _, _, _] _
        refine ab_cl ok_Ha_printAfter rfl [_, _, _, _, _] [] rfl ⟨_, _, rfl, rfl, Or.inl ⟨_, _, rfl, rfl⟩⟩ (Nat.le_of_ble_eq_true rfl) (t_Ha_faded d fm X s1 t (CLaw_kp (by simp) hk.to2 hL) he hf _ _) ?_
        rintro _ _ ⟨rfl, s2, rfl, hk2⟩
        show ab_Z m_Ha_printAfter _ _ _ 23 [_, _, _, _, _, _] [_] _
        have ih2 := ih s2 (hk.tr hk2)
        rw [prtA, if_neg h2, nI_succ] at ih2
        rw [show s1 11 39 = s 11 39 from hk 11 39 rfl, show s1 20 (3 * e + f) = s 20 (3 * e + f) from hk 20 _ rfl, show s1 19 e = s 19 e from hk 19 _ rfl]
        refine ab_go ok_Ha_printAfter 3 rfl ?_
        show ab_Z m_Ha_printAfter _ _ _ 8 [_, _, _, _, _, _] [] _
        exact ih2
theorem t_Ha_isSealed {n e : Nat} (he : e < n) (hn : s 14 12 = nI n) (hn6 : n ≤ 6) : ab_T g_Ha_isSealed (d + 1) (0, 0) [.ref 9, .int (nI e)] (HA fm X s t) (PI (bB (!decide (s 11 (33 + e) < 0))) (HA fm X s t)) := by
  refine ab_T_of (M := m_Ha_isSealed) rfl rfl (Nat.le_of_ble_eq_true rfl) ?_
  show ab_Z m_Ha_isSealed _ _ _ 0 [_, _] [] _
  refine ab_go ok_Ha_isSealed 2 rfl ?_
  show ab_Z m_Ha_isSealed _ _ _ 2 [_, _] [_, _] _
  refine ab_cl ok_Ha_isSealed rfl [_, _] [] rfl ⟨_, _, rfl, rfl, Or.inl ⟨_, _, rfl, rfl⟩⟩ (Nat.le_of_ble_eq_true rfl) (t_Ha_isDeed d fm X s t _) ?_
  rintro _ _ ⟨rfl, rfl⟩
  show ab_Z m_Ha_isSealed _ _ _ 3 [_, _] [_] _
  rw [hn, bI_t (by rw [nI_t (by omega), nI_t (by omega)]; omega)]
  refine ab_go ok_Ha_isSealed 1 rfl ?_
  show ab_Z m_Ha_isSealed _ _ _ 4 [_, _] [] _
  refine ab_go ok_Ha_isSealed 3 rfl ?_
  show ab_Z m_Ha_isSealed _ _ _ 7 [_, _] [_, _] _
  refine ab_cl ok_Ha_isSealed rfl [_, _] [] rfl ⟨_, _, rfl, rfl, Or.inl ⟨_, _, rfl, rfl⟩⟩ (Nat.le_of_ble_eq_true rfl) (t_Sc_sealerOf d fm X s t (show e < 6 by omega)) ?_
  rintro _ _ ⟨rfl, rfl⟩
  show ab_Z m_Ha_isSealed _ _ _ 8 [_, _] [_] _
  refine ab_br ok_Ha_isSealed rfl rfl ?_ ?_
  · intro h1
    show ab_Z m_Ha_isSealed _ _ _ 11 [_, _] [] _
    refine ab_go ok_Ha_isSealed 1 rfl ?_
    show ab_Z m_Ha_isSealed _ _ _ 12 [_, _] [_] _
    exact ab_rZ ok_Ha_isSealed rfl (by decide) (⟨by rw [decide_eq_true h1]; rfl, rfl⟩)
  · intro h1
    show ab_Z m_Ha_isSealed _ _ _ 9 [_, _] [] _
    refine ab_go ok_Ha_isSealed 2 rfl ?_
    show ab_Z m_Ha_isSealed _ _ _ 12 [_, _] [_] _
    exact ab_rZ ok_Ha_isSealed rfl (by decide) (⟨by rw [decide_eq_false h1]; rfl, rfl⟩)
theorem t_Ha_bindsAfter {PB PF : List (List Ins)} (hB : CLaw s 30 PB) (hF : CLaw s 34 PF) {nc nd nt e n : Nat} (hn : s 14 12 = nI nd) (hn6 : nd ≤ 6) (hc5 : nc ≤ 5) (hI : SI s nc nd nt) (he : e < nd) (hm : n < 1000) : ab_T g_Ha_bindsAfter (d + 5) (0, 0) [.ref 9, .int (nI e), .int (nI n)] (HA fm X s t) (PK (bdV s PB PF nd e n) fm X s t) := by
  refine ab_T_of (M := m_Ha_bindsAfter) rfl rfl (Nat.le_of_ble_eq_true rfl) ?_
  show ab_Z m_Ha_bindsAfter _ _ _ 0 [_, _, _, _, _] [] _
  refine ab_go ok_Ha_bindsAfter 2 rfl ?_
  show ab_Z m_Ha_bindsAfter _ _ _ 2 [_, _, _, _, _] [_, _] _
  refine ab_cl ok_Ha_bindsAfter rfl [_, _] [] rfl ⟨_, _, rfl, rfl, Or.inl ⟨_, _, rfl, rfl⟩⟩ (Nat.le_of_ble_eq_true rfl) (t_Ha_isSealed (d + 3) fm X s t he hn hn6) ?_
  rintro _ _ ⟨rfl, rfl⟩
  show ab_Z m_Ha_bindsAfter _ _ _ 3 [_, _, _, _, _] [_] _
  unfold bdV
  by_cases hs : s 11 (33 + e) < 0
  · rw [decide_eq_true hs, if_pos hs]
    refine ab_go ok_Ha_bindsAfter 1 rfl ?_
    show ab_Z m_Ha_bindsAfter _ _ _ 4 [_, _, _, _, _] [] _
    refine ab_go ok_Ha_bindsAfter 1 rfl ?_
    show ab_Z m_Ha_bindsAfter _ _ _ 5 [_, _, _, _, _] [_] _
    exact ab_rI ok_Ha_bindsAfter rfl (⟨rfl, s, rfl, Kp1.rf s⟩)
  · rw [decide_eq_false hs, if_neg hs]
    obtain ⟨c, hc, hsc⟩ := hI.sl he hs
    rw [hsc, nI_c (by omega)]
    refine ab_go ok_Ha_bindsAfter 1 rfl ?_
    show ab_Z m_Ha_bindsAfter _ _ _ 6 [_, _, _, _, _] [] _
    refine ab_go ok_Ha_bindsAfter 4 rfl ?_
    show ab_Z m_Ha_bindsAfter _ _ _ 10 [_, _, _, _, _] [] _
    refine lp_dn 3 (fun k => ∀ s1, Kp1 s s1 → ab_Z m_Ha_bindsAfter (d + 5) (0, 0) (PK (bdF PB (s 16 c + (s 11 39 + nI n)) (s 19 e) (s 11 39 + nI n) (nsV s nd c) (nI c) (prsA s PF e n 3)) fm X s t) 10 [some (.ref 9), some (.int (nI e)), some (.int (nI n)), some (.int (prsA s PF e n k)), some (.int (nI k))] [] (HA fm X s1 t)) ?_ ?_ s (Kp1.rf s)
    · intro s1 hk
      refine ab_go ok_Ha_bindsAfter 2 rfl ?_
      show ab_Z m_Ha_bindsAfter _ _ _ 12 [_, _, _, _, _] [_, _] _
      refine ab_go ok_Ha_bindsAfter 1 rfl ?_
      show ab_Z m_Ha_bindsAfter _ _ _ 23 [_, _, _, _, _] [] _
      refine ab_go ok_Ha_bindsAfter 3 rfl ?_
      show ab_Z m_Ha_bindsAfter _ _ _ 26 [_, _, _, _, _] [_, _] _
      refine ab_cl ok_Ha_bindsAfter rfl [_, _] [] rfl ⟨_, _, rfl, rfl, Or.inl ⟨_, _, rfl, rfl⟩⟩ (Nat.le_of_ble_eq_true rfl) (t_Sc_sealerOf (d + 4) fm X s1 t (show e < 6 by omega)) ?_
      rintro _ _ ⟨rfl, rfl⟩
      show ab_Z m_Ha_bindsAfter _ _ _ 27 [_, _, _, _, _] [_] _
      rw [hk 11 _ rfl, hsc]
      refine ab_go ok_Ha_bindsAfter 6 rfl ?_
      show ab_Z m_Ha_bindsAfter _ _ _ 33 [_, _, _, _, _] [_, _, _, _, _] _
      refine ab_cl ok_Ha_bindsAfter rfl [_, _] [_, _, _] rfl ⟨_, _, rfl, rfl, Or.inl ⟨_, _, rfl, rfl⟩⟩ (Nat.le_of_ble_eq_true rfl) (t_Ha_sealedBy (d + 2) fm X s1 t _ ((hk 14 12 rfl).trans hn) hn6) ?_
      rintro _ _ ⟨rfl, rfl⟩
      show ab_Z m_Ha_bindsAfter _ _ _ 34 [_, _, _, _, _] [_, _, _, _] _
      rw [show bcF (nI (bitsN (fun k => decide (s1 11 (33 + k) = nI c)) nd)) = nsV s nd c from nsV_kp hk.to2 nd c]
      refine ab_go ok_Ha_bindsAfter 3 rfl ?_
      show ab_Z m_Ha_bindsAfter _ _ _ 37 [_, _, _, _, _] [_, _, _, _, _, _] _
      refine ab_cl ok_Ha_bindsAfter rfl [_] [_, _, _, _, _] rfl ⟨_, _, rfl, rfl, Or.inl ⟨_, _, rfl, rfl⟩⟩ (Nat.le_of_ble_eq_true rfl) (t_Sc_yearNow (d + 4) fm X s1 t) ?_
      rintro _ _ ⟨rfl, rfl⟩
      show ab_Z m_Ha_bindsAfter _ _ _ 38 [_, _, _, _, _] [_, _, _, _, _, _] _
      refine ab_go ok_Ha_bindsAfter 2 rfl ?_
      show ab_Z m_Ha_bindsAfter _ _ _ 40 [_, _, _, _, _] [_, _, _, _, _, _] _
      refine ab_cl ok_Ha_bindsAfter rfl [_, _, _, _, _, _] [] rfl ⟨_, _, rfl, rfl, Or.inl ⟨_, _, rfl, rfl⟩⟩ (Nat.le_of_ble_eq_true rfl) (t_Ha_bindsOf (d + 1) fm X s1 t (CLaw_kp (by simp) hk.to2 hB) (show c < 5 by omega) (show e < 6 by omega) _ _ _) ?_
      rintro _ _ ⟨rfl, s2, rfl, hk2⟩
      show ab_Z m_Ha_bindsAfter _ _ _ 41 [_, _, _, _, _] [_] _
      rw [show s1 11 39 = s 11 39 from hk 11 39 rfl, show s1 16 c = s 16 c from hk 16 _ rfl, show s1 19 e = s 19 e from hk 19 _ rfl]
      exact ab_rI ok_Ha_bindsAfter rfl (⟨rfl, s2, rfl, hk.tr hk2⟩)
    · intro k hk3 ih s1 hk
      refine ab_go ok_Ha_bindsAfter 2 rfl ?_
      show ab_Z m_Ha_bindsAfter _ _ _ 12 [_, _, _, _, _] [_, _] _
      refine ab_br ok_Ha_bindsAfter rfl rfl ?_ ?_
      · intro h1
        show ab_Z m_Ha_bindsAfter _ _ _ 23 [_, _, _, _, _] [] _
        exact absurd h1 (lp_in (N := 3) (by decide) hk3)
      · intro h1
        show ab_Z m_Ha_bindsAfter _ _ _ 13 [_, _, _, _, _] [] _
        refine ab_go ok_Ha_bindsAfter 5 rfl ?_
        show ab_Z m_Ha_bindsAfter _ _ _ 18 [_, _, _, _, _] [_, _, _, _, _] _
        refine ab_cl ok_Ha_bindsAfter rfl [_, _, _, _] [_] rfl ⟨_, _, rfl, rfl, Or.inl ⟨_, _, rfl, rfl⟩⟩ (Nat.le_of_ble_eq_true rfl) (t_Ha_printAfter d fm X s1 t (CLaw_kp (by simp) hk.to2 hF) (show e < 6 by omega) hk3 hm) ?_
        rintro _ _ ⟨rfl, s2, rfl, hk2⟩
        show ab_Z m_Ha_bindsAfter _ _ _ 19 [_, _, _, _, _] [_, _] _
        rw [prtA_kp hk.to2]
        refine ab_go ok_Ha_bindsAfter 4 rfl ?_
        show ab_Z m_Ha_bindsAfter _ _ _ 10 [_, _, _, _, _] [] _
        have ih2 := ih s2 (hk.tr hk2)
        rw [nI_succ] at ih2
        exact ih2
theorem t_Ha_allBindAfter {PB PF : List (List Ins)} (hB : CLaw s 30 PB) (hF : CLaw s 34 PF) {nc nd nt n : Nat} (hn : s 14 12 = nI nd) (hn6 : nd ≤ 6) (hc5 : nc ≤ 5) (hI : SI s nc nd nt) (hm : n < 1000) : ab_T g_Ha_allBindAfter (d + 6) (0, 0) [.ref 9, .int (nI n)] (HA fm X s t) (PK (sumV (fun e => bdV s PB PF nd e n) nd) fm X s t) := by
  refine ab_T_of (M := m_Ha_allBindAfter) rfl rfl (Nat.le_of_ble_eq_true rfl) ?_
  show ab_Z m_Ha_allBindAfter _ _ _ 0 [_, _, _, _] [] _
  refine ab_go ok_Ha_allBindAfter 4 rfl ?_
  show ab_Z m_Ha_allBindAfter _ _ _ 4 [_, _, _, _] [] _
  refine lp_dn nd (fun k => ∀ s1, Kp1 s s1 → ab_Z m_Ha_allBindAfter (d + 6) (0, 0) (PK (sumV (fun e => bdV s PB PF nd e n) nd) fm X s t) 4 [some (.ref 9), some (.int (nI n)), some (.int (sumV (fun e => bdV s PB PF nd e n) k)), some (.int (nI k))] [] (HA fm X s1 t)) ?_ ?_ s (Kp1.rf s)
  · intro s1 hk
    refine ab_go ok_Ha_allBindAfter 4 rfl ?_
    show ab_Z m_Ha_allBindAfter _ _ _ 8 [_, _, _, _] [_, _] _
    rw [(hk 14 12 rfl).trans hn]
    refine ab_br ok_Ha_allBindAfter rfl rfl ?_ ?_
    · intro h1
      show ab_Z m_Ha_allBindAfter _ _ _ 18 [_, _, _, _] [] _
      refine ab_go ok_Ha_allBindAfter 1 rfl ?_
      show ab_Z m_Ha_allBindAfter _ _ _ 19 [_, _, _, _] [_] _
      exact ab_rI ok_Ha_allBindAfter rfl (⟨rfl, s1, rfl, hk⟩)
    · intro h1
      show ab_Z m_Ha_allBindAfter _ _ _ 9 [_, _, _, _] [] _
      exact absurd (lp_out nd) h1
  · intro k hkn ih s1 hk
    refine ab_go ok_Ha_allBindAfter 4 rfl ?_
    show ab_Z m_Ha_allBindAfter _ _ _ 8 [_, _, _, _] [_, _] _
    rw [(hk 14 12 rfl).trans hn]
    refine ab_br ok_Ha_allBindAfter rfl rfl ?_ ?_
    · intro h1
      show ab_Z m_Ha_allBindAfter _ _ _ 18 [_, _, _, _] [] _
      exact absurd h1 (lp_in (by omega) hkn)
    · intro h1
      show ab_Z m_Ha_allBindAfter _ _ _ 9 [_, _, _, _] [] _
      refine ab_go ok_Ha_allBindAfter 4 rfl ?_
      show ab_Z m_Ha_allBindAfter _ _ _ 13 [_, _, _, _] [_, _, _, _] _
      refine ab_cl ok_Ha_allBindAfter rfl [_, _, _] [_] rfl ⟨_, _, rfl, rfl, Or.inl ⟨_, _, rfl, rfl⟩⟩ (Nat.le_of_ble_eq_true rfl) (t_Ha_bindsAfter d fm X s1 t (CLaw_kp (by simp) hk.to2 hB) (CLaw_kp (by simp) hk.to2 hF) ((hk 14 12 rfl).trans hn) hn6 hc5 (hI.kp hk.to2) hkn hm) ?_
      rintro _ _ ⟨rfl, s2, rfl, hk2⟩
      show ab_Z m_Ha_allBindAfter _ _ _ 14 [_, _, _, _] [_, _] _
      rw [bdV_kp hk.to2]
      refine ab_go ok_Ha_allBindAfter 4 rfl ?_
      show ab_Z m_Ha_allBindAfter _ _ _ 4 [_, _, _, _] [] _
      have ih2 := ih s2 (hk.tr hk2)
      rw [nI_succ] at ih2
      exact ih2
end

