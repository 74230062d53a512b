/-! the reference: what is kept; its text and row as the class has them -/
def w1 (c k : Nat) : Bool := c == 112 || c == 113 || (c == 81 && k == 49)
def w2 (c k : Nat) : Bool := w1 c k || c == 116
def w3 (c k : Nat) : Bool := w2 c k || c == 115 || c == 117 || c == 118 || (c == 81 && k == 52)
def w4 (c k : Nat) : Bool := w3 c k || c == 120 || c == 121 || c == 122 || c == 123 || (c == 81 && k == 59)
def Kr (W : Nat → Nat → Bool) (s s' : Nat → Nat → Int32) : Prop := ∀ c k, W c k = false → s' c k = s c k
theorem Kr.rf (W : Nat → Nat → Bool) (s : Nat → Nat → Int32) : Kr W s s := fun _ _ _ => rfl
theorem Kr.tr {W : Nat → Nat → Bool} {a b c : Nat → Nat → Int32} (h : Kr W a b) (g : Kr W b c) : Kr W a c := fun x k p => (g x k p).trans (h x k p)
theorem Kr.m12 {a b : Nat → Nat → Int32} (h : Kr w1 a b) : Kr w2 a b := fun x k p => h x k (by unfold w2 at p; exact (Bool.or_eq_false_iff.mp p).1)
theorem Kr.m23 {a b : Nat → Nat → Int32} (h : Kr w2 a b) : Kr w3 a b := fun x k p => h x k (by unfold w3 at p; simp only [Bool.or_eq_false_iff] at p; exact p.1.1.1.1)
theorem Kr.m34 {a b : Nat → Nat → Int32} (h : Kr w3 a b) : Kr w4 a b := fun x k p => h x k (by unfold w4 at p; simp only [Bool.or_eq_false_iff] at p; exact p.1.1.1.1.1)
theorem Kr.up {W : Nat → Nat → Bool} {a b : Nat → Nat → Int32} {c k : Nat} {v : Int32} (hW : W c k = true) (h : Kr W a b) : Kr W a (ab_up b c k v) := by
  intro x j p
  rw [← h x j p]
  by_cases h1 : x = c
  · subst h1
    by_cases h2 : j = k
    · subst h2; rw [hW] at p; cases p
    · rw [ab_up_n h2]
  · rw [ab_up_o h1]
theorem Kr.ro {W : Nat → Nat → Bool} {a b : Nat → Nat → Int32} {c : Nat} {f : Nat → Int32} (hW : ∀ k, W c k = true) (h : Kr W a b) : Kr W a (ab_ro b c f) := by
  intro x j p
  rw [← h x j p]
  by_cases h1 : x = c
  · subst h1; rw [hW j] at p; cases p
  · rw [ab_ro_o h1]
theorem Kr.row {W : Nat → Nat → Bool} {a b : Nat → Nat → Int32} (h : Kr W a b) {c : Nat} (hc : ∀ k, W c k = false) : b c = a c := funext fun k => h c k (hc k)
def rwF (b : Nat → Int32) (nc nd : Nat) (r : Nat → Int32) : Nat → Int32 := fun j => if j < 3 * nc then r j else if 15 ≤ j ∧ j < 15 + 3 * nd then r (j + 6) else if 33 ≤ j ∧ j < 33 + nd then r (j - 18) else if j = 39 then r 39 else b j
def vR (T : Nat → Nat → Int32) (nc nd : Nat) (r : Nat → Int32) : Nat → Nat → Int32 := ab_ro T 11 (rwF (T 11) nc nd r)
theorem vR_l {T : Nat → Nat → Int32} {nc nd : Nat} {r : Nat → Int32} {c f : Nat} (hc : c < nc) (hf : f < 3) : vR T nc nd r 11 (3 * c + f) = r (3 * c + f) := by
  unfold vR
  rw [ab_ro_c, rwF, if_pos (by omega)]
theorem vR_p {T : Nat → Nat → Int32} {nc nd : Nat} {r : Nat → Int32} {e f : Nat} (h5 : nc ≤ 5) (he : e < nd) (hf : f < 3) : vR T nc nd r 11 (15 + 3 * e + f) = r (21 + 3 * e + f) := by
  unfold vR
  rw [ab_ro_c, rwF, if_neg (by omega), if_pos (by omega)]
  congr 1; omega
theorem vR_s {T : Nat → Nat → Int32} {nc nd : Nat} {r : Nat → Int32} {e : Nat} (h5 : nc ≤ 5) (h6 : nd ≤ 6) (he : e < nd) : vR T nc nd r 11 (33 + e) = r (15 + e) := by
  unfold vR
  rw [ab_ro_c, rwF, if_neg (by omega), if_neg (by omega), if_pos (by omega)]
  congr 1; omega
theorem vR_y {T : Nat → Nat → Int32} {nc nd : Nat} {r : Nat → Int32} (h5 : nc ≤ 5) (h6 : nd ≤ 6) : vR T nc nd r 11 39 = r 39 := by
  unfold vR
  rw [ab_ro_c, rwF, if_neg (by omega), if_neg (by omega), if_neg (by omega), if_pos rfl]
theorem vR_o {T : Nat → Nat → Int32} {nc nd : Nat} {r : Nat → Int32} {c : Nat} (h : c ≠ 11) : vR T nc nd r c = T c := ab_ro_o h
/-- the reference's text, as T has it at the class's places -/
def RT (s : Nat → Nat → Int32) (lv : Nat) (T : Nat → Nat → Int32) (nc nd nt : Nat) : Prop :=
  s 81 18 = nI lv ∧ lv < 2 ∧ (s 91 lv = nI nc ∧ nc ≤ 5) ∧ (s 94 lv = nI nd ∧ nd ≤ 6) ∧ (s 97 lv = nI nt ∧ nt ≤ 6) ∧ (∀ c, c < nc → s 92 (5 * lv + c) = T 16 c) ∧ (∀ c f, c < nc → f < 3 → s 93 (15 * lv + 3 * c + f) = T 17 (3 * c + f)) ∧ (∀ e, e < nd → s 95 (6 * lv + e) = T 19 e) ∧ (∀ e f, e < nd → f < 3 → s 96 (18 * lv + 3 * e + f) = T 20 (3 * e + f)) ∧ (∀ k, k < nt → s 98 (6 * lv + k) = T 21 (2 * k) ∧ s 99 (6 * lv + k) = T 21 (2 * k + 1)) ∧ s 100 lv = T 14 14 ∧ s 101 lv = T 14 15
theorem RT.k {s s' T : Nat → Nat → Int32} {lv nc nd nt : Nat} (h : Kr w4 s s') (hR : RT s lv T nc nd nt) : RT s' lv T nc nd nt := by
  obtain ⟨r1, r2, ⟨r3, r3'⟩, ⟨r4, r4'⟩, ⟨r5, r5'⟩, r6, r7, r8, r9, r10, r11, r12⟩ := hR
  refine ⟨(h 81 18 rfl).trans r1, r2, ⟨(h 91 _ rfl).trans r3, r3'⟩, ⟨(h 94 _ rfl).trans r4, r4'⟩, ⟨(h 97 _ rfl).trans r5, r5'⟩, fun c hc => (h 92 _ rfl).trans (r6 c hc), fun c f hc hf => (h 93 _ rfl).trans (r7 c f hc hf), fun e he => (h 95 _ rfl).trans (r8 e he), fun e f he hf => (h 96 _ rfl).trans (r9 e f he hf), fun k hk => ⟨(h 98 _ rfl).trans (r10 k hk).1, (h 99 _ rfl).trans (r10 k hk).2⟩, (h 100 _ rfl).trans r11, (h 101 _ rfl).trans r12⟩
theorem held_w (v m : Int32) (hm : 0 < m) : (if v < 0 then 0 else if m < v then m else v) = heldF v m := by
  have h0 : (0 : Int32).toInt = 0 := rfl
  have hm' := i_lt hm
  unfold heldF
  by_cases h1 : v < m
  · have h1' := i_lt h1
    rw [if_pos h1]
    by_cases h2 : v < 0
    · have h2' := i_lt h2
      rw [if_pos h2, if_neg (fun z => by have := i_lt z; omega)]
    · have h2' := i_nlt h2
      rw [if_neg h2, if_neg (fun z => by have := i_lt z; omega)]
      by_cases h3 : 0 < v
      · rw [if_pos h3]
      · have h3' := i_nlt h3
        rw [if_neg h3]
        exact Int32.toInt_inj.mp (by omega)
  · have h1' := i_nlt h1
    rw [if_neg h1, if_pos hm, if_neg (fun z => by have := i_lt z; omega)]
    by_cases h3 : m < v
    · rw [if_pos h3]
    · have h3' := i_nlt h3
      rw [if_neg h3]
      exact Int32.toInt_inj.mp (by omega)
theorem sh_bit : ∀ a, a < 64 → ∀ k, k < 6 → nI a >>> (nI k &&& 31) &&& 1 = nI (if a.testBit k then 1 else 0) := by decide +kernel
theorem nI_sub1T {n : Nat} (h : n < 1000) : (nI n - 1).toInt = (n : Int) - 1 := pk_sub_toInt (b := 1) (by omega) (by decide)
abbrev PR (W : Nat → Nat → Bool) (r : Int32) (fm : Value) (X : Nat × (Nat → Int32)) (s : Nat → Nat → Int32) (t : Nat → Nat → Int64) : Option Value → ab_H → Prop := fun v h => v = some (.int r) ∧ ∃ s', h = HA fm X s' t ∧ Kr W s s'
section
variable (d : Nat) (h : ab_H)
theorem t_Mo_in (x a b : Int32) : ab_T g_Mo_in d (0, 0) [.int x, .int a, .int b] h (PI (bI (a.toInt ≤ x.toInt ∧ x.toInt ≤ b.toInt)) h) := by
  refine ab_T_of (M := m_Mo_in) rfl rfl (Nat.le_of_ble_eq_true rfl) ?_
  show ab_Z m_Mo_in _ _ _ 0 [_, _, _] [] _
  refine ab_go ok_Mo_in 2 rfl ?_
  show ab_Z m_Mo_in _ _ _ 2 [_, _, _] [_, _] _
  refine ab_br ok_Mo_in rfl rfl ?_ ?_
  · intro h1
    show ab_Z m_Mo_in _ _ _ 8 [_, _, _] [] _
    refine ab_go ok_Mo_in 1 rfl ?_
    show ab_Z m_Mo_in _ _ _ 9 [_, _, _] [_] _
    exact ab_rZ ok_Mo_in rfl (by decide) (⟨by rw [bI_f (by have := i_lt h1; omega)], rfl⟩)
  · intro h1
    show ab_Z m_Mo_in _ _ _ 3 [_, _, _] [] _
    refine ab_go ok_Mo_in 2 rfl ?_
    show ab_Z m_Mo_in _ _ _ 5 [_, _, _] [_, _] _
    refine ab_br ok_Mo_in rfl rfl ?_ ?_
    · intro h2
      show ab_Z m_Mo_in _ _ _ 8 [_, _, _] [] _
      refine ab_go ok_Mo_in 1 rfl ?_
      show ab_Z m_Mo_in _ _ _ 9 [_, _, _] [_] _
      exact ab_rZ ok_Mo_in rfl (by decide) (⟨by rw [bI_f (by have := i_lt h2; omega)], rfl⟩)
    · intro h2
      show ab_Z m_Mo_in _ _ _ 6 [_, _, _] [] _
      refine ab_go ok_Mo_in 2 rfl ?_
      show ab_Z m_Mo_in _ _ _ 9 [_, _, _] [_] _
      exact ab_rZ ok_Mo_in rfl (by decide) (⟨by rw [bI_t ⟨i_nlt h1, i_nlt h2⟩], rfl⟩)
theorem t_Mo_within (x a b : Int32) : ab_T g_Mo_within d (0, 0) [.int x, .int a, .int b] h (PI (if x < a then a else if b < x then b else x) h) := by
  refine ab_T_of (M := m_Mo_within) rfl rfl (Nat.le_of_ble_eq_true rfl) ?_
  show ab_Z m_Mo_within _ _ _ 0 [_, _, _] [] _
  refine ab_go ok_Mo_within 2 rfl ?_
  show ab_Z m_Mo_within _ _ _ 2 [_, _, _] [_, _] _
  refine ab_br ok_Mo_within rfl rfl ?_ ?_
  · intro h1
    show ab_Z m_Mo_within _ _ _ 5 [_, _, _] [] _
    have h1' := i_le h1
    refine ab_go ok_Mo_within 2 rfl ?_
    show ab_Z m_Mo_within _ _ _ 7 [_, _, _] [_, _] _
    refine ab_br ok_Mo_within rfl rfl ?_ ?_
    · intro h2
      show ab_Z m_Mo_within _ _ _ 10 [_, _, _] [] _
      have h2' := i_le h2
      refine ab_go ok_Mo_within 1 rfl ?_
      show ab_Z m_Mo_within _ _ _ 11 [_, _, _] [_] _
      exact ab_rI ok_Mo_within rfl (⟨by rw [if_neg (fun z => by have := i_lt z; omega), if_neg (fun z => by have := i_lt z; omega)], rfl⟩)
    · intro h2
      show ab_Z m_Mo_within _ _ _ 8 [_, _, _] [] _
      have h2' := i_nle h2
      refine ab_go ok_Mo_within 2 rfl ?_
      show ab_Z m_Mo_within _ _ _ 11 [_, _, _] [_] _
      exact ab_rI ok_Mo_within rfl (⟨by rw [if_neg (fun z => by have := i_lt z; omega), if_pos (Int32.lt_iff_toInt_lt.mpr h2')], rfl⟩)
  · intro h1
    show ab_Z m_Mo_within _ _ _ 3 [_, _, _] [] _
    have h1' := i_nle h1
    refine ab_go ok_Mo_within 2 rfl ?_
    show ab_Z m_Mo_within _ _ _ 11 [_, _, _] [_] _
    exact ab_rI ok_Mo_within rfl (⟨by rw [if_pos (Int32.lt_iff_toInt_lt.mpr h1')], rfl⟩)
theorem t_Mo_bits {a : Nat} (ha : a < 64) : ab_T g_Mo_bits d (0, 0) [.int (nI a)] h (PI (bcF (nI a)) h) := by
  rw [bcF_64 a ha]
  refine ab_T_of (M := m_Mo_bits) rfl rfl (Nat.le_of_ble_eq_true rfl) ?_
  show ab_Z m_Mo_bits _ _ _ 0 [_, _, _] [] _
  refine ab_go ok_Mo_bits 4 rfl ?_
  show ab_Z m_Mo_bits _ _ _ 4 [_, _, _] [] _
  refine lp_dn 6 (fun k => ab_Z m_Mo_bits d (0, 0) (PI (nI (pcN a)) h) 4 [some (.int (nI a)), some (.int (nI (cntN (fun i => a.testBit i) k))), some (.int (nI k))] [] h) ?_ ?_
  · refine ab_go ok_Mo_bits 2 rfl ?_
    show ab_Z m_Mo_bits _ _ _ 6 [_, _, _] [_, _] _
    refine ab_go ok_Mo_bits 1 rfl ?_
    show ab_Z m_Mo_bits _ _ _ 17 [_, _, _] [] _
    refine ab_go ok_Mo_bits 1 rfl ?_
    show ab_Z m_Mo_bits _ _ _ 18 [_, _, _] [_] _
    exact ab_rI ok_Mo_bits rfl (⟨rfl, rfl⟩)
  · intro k hk ih
    refine ab_go ok_Mo_bits 2 rfl ?_
    show ab_Z m_Mo_bits _ _ _ 6 [_, _, _] [_, _] _
    refine ab_br ok_Mo_bits rfl rfl ?_ ?_
    · intro h1
      show ab_Z m_Mo_bits _ _ _ 17 [_, _, _] [] _
      exact absurd h1 (lp_in (N := 6) (by decide) hk)
    · intro h1
      show ab_Z m_Mo_bits _ _ _ 7 [_, _, _] [] _
      refine ab_go ok_Mo_bits 10 rfl ?_
      show ab_Z m_Mo_bits _ _ _ 4 [_, _, _] [] _
      rw [sh_bit a ha k hk, nI_add]
      rw [cntN, nI_succ k] at ih
      exact ih
theorem t_Mo_off (x y : Int32) : ab_T g_Mo_off d (0, 0) [.int x, .int y] h (PI (if x < y then y - x else x - y) h) := by
  refine ab_T_of (M := m_Mo_off) rfl rfl (Nat.le_of_ble_eq_true rfl) ?_
  show ab_Z m_Mo_off _ _ _ 0 [_, _] [] _
  refine ab_go ok_Mo_off 2 rfl ?_
  show ab_Z m_Mo_off _ _ _ 2 [_, _] [_, _] _
  refine ab_br ok_Mo_off rfl rfl ?_ ?_
  · intro h1
    show ab_Z m_Mo_off _ _ _ 7 [_, _] [] _
    refine ab_go ok_Mo_off 3 rfl ?_
    show ab_Z m_Mo_off _ _ _ 10 [_, _] [_] _
    exact ab_rI ok_Mo_off rfl (⟨by rw [if_neg (fun z => by have := i_lt z; have := i_le h1; omega)], rfl⟩)
  · intro h1
    show ab_Z m_Mo_off _ _ _ 3 [_, _] [] _
    refine ab_go ok_Mo_off 4 rfl ?_
    show ab_Z m_Mo_off _ _ _ 10 [_, _] [_] _
    exact ab_rI ok_Mo_off rfl (⟨by rw [if_pos (Int32.lt_iff_toInt_lt.mpr (i_nle h1))], rfl⟩)
theorem t_Mo_isFeature (x : Int32) : ab_T g_Mo_isFeature (d + 1) (0, 0) [.int x] h (PI (bI (inR 3 x)) h) := by
  refine ab_T_of (M := m_Mo_isFeature) rfl rfl (Nat.le_of_ble_eq_true rfl) ?_
  show ab_Z m_Mo_isFeature _ _ _ 0 [_] [] _
  refine ab_go ok_Mo_isFeature 3 rfl ?_
  show ab_Z m_Mo_isFeature _ _ _ 3 [_] [_, _, _] _
  refine ab_cl ok_Mo_isFeature rfl [_, _, _] [] rfl rfl (Nat.le_of_ble_eq_true rfl) (t_Mo_in d h x 0 2) ?_
  rintro _ _ ⟨rfl, rfl⟩
  show ab_Z m_Mo_isFeature _ _ _ 4 [_] [_] _
  refine ab_rZ ok_Mo_isFeature rfl (by first | decide | exact bB_01 _ | exact bI_01 _) (⟨?_, rfl⟩)
  rw [bI_c (show (0 : Int32).toInt ≤ x.toInt ∧ x.toInt ≤ (2 : Int32).toInt ↔ inR 3 x from by
      show (0 : Int) ≤ x.toInt ∧ x.toInt ≤ 2 ↔ _
      unfold inR
      omega)]
theorem t_Mo_isLong (x : Int32) : ab_T g_Mo_isLong (d + 1) (0, 0) [.int x] h (PI (bI (inR 41 x)) h) := by
  refine ab_T_of (M := m_Mo_isLong) rfl rfl (Nat.le_of_ble_eq_true rfl) ?_
  show ab_Z m_Mo_isLong _ _ _ 0 [_] [] _
  refine ab_go ok_Mo_isLong 3 rfl ?_
  show ab_Z m_Mo_isLong _ _ _ 3 [_] [_, _, _] _
  refine ab_cl ok_Mo_isLong rfl [_, _, _] [] rfl rfl (Nat.le_of_ble_eq_true rfl) (t_Mo_in d h x 0 40) ?_
  rintro _ _ ⟨rfl, rfl⟩
  show ab_Z m_Mo_isLong _ _ _ 4 [_] [_] _
  refine ab_rZ ok_Mo_isLong rfl (by first | decide | exact bB_01 _ | exact bI_01 _) (⟨?_, rfl⟩)
  rw [bI_c (show (0 : Int32).toInt ≤ x.toInt ∧ x.toInt ≤ (40 : Int32).toInt ↔ inR 41 x from by
      show (0 : Int) ≤ x.toInt ∧ x.toInt ≤ 40 ↔ _
      unfold inR
      omega)]
theorem t_Mo_mixed (a b : Int32) : ab_T g_Mo_mixed d (0, 0) [.int a, .int b] h (PI (mixF a b) h) := by
  refine ab_T_of (M := m_Mo_mixed) rfl rfl (Nat.le_of_ble_eq_true rfl) ?_
  show ab_Z m_Mo_mixed _ _ _ 0 [_, _, _] [] _
  refine ab_go ok_Mo_mixed 13 rfl ?_
  show ab_Z m_Mo_mixed _ _ _ 13 [_, _, _] [_] _
  exact ab_rI ok_Mo_mixed rfl (⟨rfl, rfl⟩)
end

