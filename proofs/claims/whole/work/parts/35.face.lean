/-! the face, second part: what is only looked at -/
def lentV (s : Nat → Nat → Int32) (c f : Nat) : Nat → Int32
  | 0 => 0
  | k + 1 => if s 11 (33 + k) = nI c then lentV s c f k + s 11 (15 + 3 * k + f) else lentV s c f k
def greV (b : Nat → Int32) : Nat → Int32 × Int32
  | 0 => (-2, -2)
  | k + 1 => if (greV b k).2 < b k then (nI k, b k) else greV b k
def wkV (b : Nat → Int32) : Nat → Int32 × Int32
  | 0 => (-2, -2)
  | k + 1 => if ¬ b k = -1 ∧ ((wkV b k).1 = -2 ∨ b k < (wkV b k).2) then (nI k, b k) else wkV b k
def brV (b : Nat → Int32) : Nat → Int32 × Int32
  | 0 => (-2, -2)
  | k + 1 => if (brV b k).1 = -2 ∨ b k < (brV b k).2 then (nI k, b k) else brV b k
def prS (ok : Nat → Nat → Bool) (df : Nat → Nat → Int32) (a o : Nat) (p : Int32 × Int32) : Int32 × Int32 := if ok a o = true ∧ (p.1 = -2 ∨ df a o < p.2) then (nI (10 * a + o), df a o) else p
def prI (ok : Nat → Nat → Bool) (df : Nat → Nat → Int32) (a : Nat) (p : Int32 × Int32) : Nat → Int32 × Int32
  | 0 => p
  | j + 1 => prS ok df a (a + 1 + j) (prI ok df a p j)
def prO (ok : Nat → Nat → Bool) (df : Nat → Nat → Int32) (n : Nat) : Nat → Int32 × Int32
  | 0 => (-2, -2)
  | a + 1 => prI ok df a (prO ok df n a) (n - (a + 1))
def laF (x y : Int32) : Int32 := if x = -2 ∨ y = -2 then -2 else if x < y then y else x
def htV (g : Nat → Int32) : Nat → Int32
  | 0 => 0
  | f + 1 => laF (htV g f) (g f)
def selA (p : Int32 × Int32) (w : Int32) : Int32 := if w = 0 then p.1 else p.2
def trbV (s : Nat → Nat → Int32) (PB PF : List (List Ins)) (nd k : Nat) : Int32 := if bdV s PB PF nd (s 21 (2 * k + 1)).toNatClampNeg 0 < bdV s PB PF nd (s 21 (2 * k)).toNatClampNeg 0 then bdV s PB PF nd (s 21 (2 * k + 1)).toNatClampNeg 0 else bdV s PB PF nd (s 21 (2 * k)).toNatClampNeg 0
def wktV (s : Nat → Nat → Int32) (PB PF : List (List Ins)) (nd k : Nat) : Int32 := if heldB s k then trbV s PB PF nd k else -1
def openB (s : Nat → Nat → Int32) (e : Nat) : Bool := decide (s 11 (33 + e) = -2)
def aptV (s : Nat → Nat → Int32) (a b : Nat) : Int32 := sumV (fun f => absF (s 11 (15 + 3 * a + f) - s 11 (15 + 3 * b + f))) 3
theorem wkV_cg {b b' : Nat → Int32} : ∀ {n : Nat}, (∀ k, k < n → b k = b' k) → wkV b n = wkV b' n
  | 0, _ => rfl
  | n + 1, h => by rw [wkV, wkV, wkV_cg (fun k hk => h k (by omega)), h n (by omega)]
theorem greV_cg {b b' : Nat → Int32} : ∀ {n : Nat}, (∀ k, k < n → b k = b' k) → greV b n = greV b' n
  | 0, _ => rfl
  | n + 1, h => by rw [greV, greV, greV_cg (fun k hk => h k (by omega)), h n (by omega)]
theorem openB_kp {s s' : Nat → Nat → Int32} (h : Kp2 s s') (e : Nat) : openB s' e = openB s e := by
  unfold openB
  rw [h 11 _ rfl (by decide)]
section
variable (d : Nat) (fm : Value) (X : Nat × (Nat → Int32)) (s : Nat → Nat → Int32) (t : Nat → Nat → Int64)
variable {nc nd nt : Nat} {PT PG PB PF : List (List Ins)}
theorem t_SF_hands (hC : CI s nc nd nt PT PG PB PF) (x : Int32) : ab_T g_SF_hands (d + 6) (0, 0) [.ref 0, .int x] (HA fm X s t) (P2 (if inR nd x then nI (bitsN (fun c => canB s PT nd c x.toNatClampNeg) nc) else -1) fm X s t) := by
  have h6 : nd ≤ 6 := hC.1.2.2.2.1
  refine ab_T_of (M := m_SF_hands) rfl rfl (Nat.le_of_ble_eq_true rfl) ?_
  show ab_Z m_SF_hands _ _ _ 0 [_, _] [] _
  refine ab_go ok_SF_hands 3 rfl ?_
  show ab_Z m_SF_hands _ _ _ 3 [_, _] [_, _] _
  refine ab_cl ok_SF_hands rfl [_, _] [] rfl ⟨_, _, rfl, rfl, Or.inl ⟨_, _, rfl, rfl⟩⟩ (Nat.le_of_ble_eq_true rfl) (t_Ha_isDeed' (d + 5) fm X s t hC.1 x) ?_
  rintro _ _ ⟨rfl, rfl⟩
  show ab_Z m_SF_hands _ _ _ 4 [_, _] [_] _
  refine ab_br ok_SF_hands rfl rfl ?_ ?_
  · intro h1
    show ab_Z m_SF_hands _ _ _ 10 [_, _] [] _
    refine ab_go ok_SF_hands 1 rfl ?_
    show ab_Z m_SF_hands _ _ _ 11 [_, _] [_] _
    exact ab_rI ok_SF_hands rfl (⟨by rw [if_neg (bI_0.mp h1)], s, rfl, Kp2.rf s⟩)
  · intro h1
    show ab_Z m_SF_hands _ _ _ 5 [_, _] [] _
    have h2 := bI_n0 h1
    rw [if_pos h2]
    clear h1
    obtain ⟨e, he, rfl⟩ := inR_nat h2
    rw [nI_c (by omega)]
    refine ab_go ok_SF_hands 3 rfl ?_
    show ab_Z m_SF_hands _ _ _ 8 [_, _] [_, _] _
    refine ab_cl ok_SF_hands rfl [_, _] [] rfl ⟨_, _, rfl, rfl, Or.inl ⟨_, _, rfl, rfl⟩⟩ (Nat.le_of_ble_eq_true rfl) (t_Ha_clerksFor d fm X s t hC.1.2.2.2.2.2.2.1 hC.1.1 hC.1.2.1 hC.1.2.2.1 h6 he) ?_
    rintro _ _ ⟨rfl, s1, rfl, hk⟩
    show ab_Z m_SF_hands _ _ _ 9 [_, _] [_] _
    refine ab_go ok_SF_hands 1 rfl ?_
    show ab_Z m_SF_hands _ _ _ 11 [_, _] [_] _
    exact ab_rI ok_SF_hands rfl (⟨rfl, s1, rfl, hk⟩)
theorem t_SF_work (hC : CI s nc nd nt PT PG PB PF) (x : Int32) : ab_T g_SF_work (d + 6) (0, 0) [.ref 0, .int x] (HA fm X s t) (P2 (if inR nc x then nI (bitsN (fun e => canB s PT nd x.toNatClampNeg e) nd) else -1) fm X s t) := by
  have h5 : nc ≤ 5 := hC.1.2.1
  refine ab_T_of (M := m_SF_work) rfl rfl (Nat.le_of_ble_eq_true rfl) ?_
  show ab_Z m_SF_work _ _ _ 0 [_, _] [] _
  refine ab_go ok_SF_work 3 rfl ?_
  show ab_Z m_SF_work _ _ _ 3 [_, _] [_, _] _
  refine ab_cl ok_SF_work rfl [_, _] [] rfl ⟨_, _, rfl, rfl, Or.inl ⟨_, _, rfl, rfl⟩⟩ (Nat.le_of_ble_eq_true rfl) (t_Ha_isClerk' (d + 5) fm X s t hC.1 x) ?_
  rintro _ _ ⟨rfl, rfl⟩
  show ab_Z m_SF_work _ _ _ 4 [_, _] [_] _
  refine ab_br ok_SF_work rfl rfl ?_ ?_
  · intro h1
    show ab_Z m_SF_work _ _ _ 10 [_, _] [] _
    refine ab_go ok_SF_work 1 rfl ?_
    show ab_Z m_SF_work _ _ _ 11 [_, _] [_] _
    exact ab_rI ok_SF_work rfl (⟨by rw [if_neg (bI_0.mp h1)], s, rfl, Kp2.rf s⟩)
  · intro h1
    show ab_Z m_SF_work _ _ _ 5 [_, _] [] _
    have h2 := bI_n0 h1
    rw [if_pos h2]
    clear h1
    obtain ⟨c, hc, rfl⟩ := inR_nat h2
    rw [nI_c (by omega)]
    refine ab_go ok_SF_work 3 rfl ?_
    show ab_Z m_SF_work _ _ _ 8 [_, _] [_, _] _
    refine ab_cl ok_SF_work rfl [_, _] [] rfl ⟨_, _, rfl, rfl, Or.inl ⟨_, _, rfl, rfl⟩⟩ (Nat.le_of_ble_eq_true rfl) (t_Ha_deedsFor d fm X s t hC.1.2.2.2.2.2.2.1 hC.1.2.2.1 hC.1.2.2.2.1 (show c < 5 by omega)) ?_
    rintro _ _ ⟨rfl, s1, rfl, hk⟩
    show ab_Z m_SF_work _ _ _ 9 [_, _] [_] _
    refine ab_go ok_SF_work 1 rfl ?_
    show ab_Z m_SF_work _ _ _ 11 [_, _] [_] _
    exact ab_rI ok_SF_work rfl (⟨rfl, s1, rfl, hk⟩)
theorem t_SF_lent (hC : CI s nc nd nt PT PG PB PF) (x y : Int32) : ab_T g_SF_lent (d + 2) (0, 0) [.ref 0, .int x, .int y] (HA fm X s t) (P2 (if inR nc x ∧ inR 3 y then lentV s x.toNatClampNeg y.toNatClampNeg nd else -1) fm X s t) := by
  have h5 : nc ≤ 5 := hC.1.2.1
  have h6 : nd ≤ 6 := hC.1.2.2.2.1
  refine ab_T_of (M := m_SF_lent) rfl rfl (Nat.le_of_ble_eq_true rfl) ?_
  show ab_Z m_SF_lent _ _ _ 0 [_, _, _, _, _] [] _
  refine ab_go ok_SF_lent 3 rfl ?_
  show ab_Z m_SF_lent _ _ _ 3 [_, _, _, _, _] [_, _] _
  refine ab_cl ok_SF_lent rfl [_, _] [] rfl ⟨_, _, rfl, rfl, Or.inl ⟨_, _, rfl, rfl⟩⟩ (Nat.le_of_ble_eq_true rfl) (t_Ha_isClerk' (d + 1) fm X s t hC.1 x) ?_
  rintro _ _ ⟨rfl, rfl⟩
  show ab_Z m_SF_lent _ _ _ 4 [_, _, _, _, _] [_] _
  refine ab_br ok_SF_lent rfl rfl ?_ ?_
  · intro h1
    show ab_Z m_SF_lent _ _ _ 8 [_, _, _, _, _] [] _
    refine ab_go ok_SF_lent 1 rfl ?_
    show ab_Z m_SF_lent _ _ _ 9 [_, _, _, _, _] [_] _
    exact ab_rI ok_SF_lent rfl (⟨by rw [if_neg (fun q => bI_0.mp h1 q.1)], s, rfl, Kp2.rf s⟩)
  · intro h1
    show ab_Z m_SF_lent _ _ _ 5 [_, _, _, _, _] [] _
    refine ab_go ok_SF_lent 1 rfl ?_
    show ab_Z m_SF_lent _ _ _ 6 [_, _, _, _, _] [_] _
    refine ab_cl ok_SF_lent rfl [_] [] rfl rfl (Nat.le_of_ble_eq_true rfl) (t_SF_isFeature (d + 1) _ y) ?_
    rintro _ _ ⟨rfl, rfl⟩
    show ab_Z m_SF_lent _ _ _ 7 [_, _, _, _, _] [_] _
    refine ab_br ok_SF_lent rfl rfl ?_ ?_
    · intro h3
      show ab_Z m_SF_lent _ _ _ 8 [_, _, _, _, _] [] _
      refine ab_go ok_SF_lent 1 rfl ?_
      show ab_Z m_SF_lent _ _ _ 9 [_, _, _, _, _] [_] _
      exact ab_rI ok_SF_lent rfl (⟨by rw [if_neg (fun q => bI_0.mp h3 q.2)], s, rfl, Kp2.rf s⟩)
    · intro h3
      show ab_Z m_SF_lent _ _ _ 10 [_, _, _, _, _] [] _
      have g1 := bI_n0 h1
      have g3 : inR 3 y := bI_n0 h3
      clear h1 h3
      rw [if_pos ⟨g1, g3⟩]
      obtain ⟨c, hc, rfl⟩ := inR_nat g1
      obtain ⟨f, hf, rfl⟩ := inR_nat g3
      rw [nI_c (n := c) (by omega), nI_c (n := f) (by omega)]
      refine ab_go ok_SF_lent 4 rfl ?_
      show ab_Z m_SF_lent _ _ _ 14 [_, _, _, _, _] [] _
      refine lp_dn nd (fun k => ab_Z m_SF_lent (d + 2) (0, 0) (P2 (lentV s c f nd) fm X s t) 14 [some (.ref 0), some (.int (nI c)), some (.int (nI f)), some (.int (lentV s c f k)), some (.int (nI k))] [] (HA fm X s t)) ?_ ?_
      · refine ab_go ok_SF_lent 5 rfl ?_
        show ab_Z m_SF_lent _ _ _ 19 [_, _, _, _, _] [_, _] _
        rw [hC.1.2.2.1]
        refine ab_br ok_SF_lent rfl rfl ?_ ?_
        · intro h1
          show ab_Z m_SF_lent _ _ _ 38 [_, _, _, _, _] [] _
          refine ab_go ok_SF_lent 1 rfl ?_
          show ab_Z m_SF_lent _ _ _ 39 [_, _, _, _, _] [_] _
          exact ab_rI ok_SF_lent rfl (⟨rfl, s, rfl, Kp2.rf s⟩)
        · intro h1
          show ab_Z m_SF_lent _ _ _ 20 [_, _, _, _, _] [] _
          exact absurd (lp_out nd) h1
      · intro k hk ih
        refine ab_go ok_SF_lent 5 rfl ?_
        show ab_Z m_SF_lent _ _ _ 19 [_, _, _, _, _] [_, _] _
        rw [hC.1.2.2.1]
        refine ab_br ok_SF_lent rfl rfl ?_ ?_
        · intro h1
          show ab_Z m_SF_lent _ _ _ 38 [_, _, _, _, _] [] _
          exact absurd h1 (lp_in (by omega) hk)
        · intro h1
          show ab_Z m_SF_lent _ _ _ 20 [_, _, _, _, _] [] _
          refine ab_go ok_SF_lent 4 rfl ?_
          show ab_Z m_SF_lent _ _ _ 24 [_, _, _, _, _] [_, _] _
          refine ab_cl ok_SF_lent rfl [_, _] [] rfl ⟨_, _, rfl, rfl, Or.inl ⟨_, _, rfl, rfl⟩⟩ (Nat.le_of_ble_eq_true rfl) (t_Sc_sealerOf (d + 1) fm X s t (show k < 6 by omega)) ?_
          rintro _ _ ⟨rfl, rfl⟩
          show ab_Z m_SF_lent _ _ _ 25 [_, _, _, _, _] [_] _
          refine ab_go ok_SF_lent 1 rfl ?_
          show ab_Z m_SF_lent _ _ _ 26 [_, _, _, _, _] [_, _] _
          rw [lentV, nI_succ] at ih
          refine ab_br ok_SF_lent rfl rfl ?_ ?_
          · intro h2
            show ab_Z m_SF_lent _ _ _ 27 [_, _, _, _, _] [] _
            rw [if_pos h2] at ih
            refine ab_go ok_SF_lent 6 rfl ?_
            show ab_Z m_SF_lent _ _ _ 33 [_, _, _, _, _] [_, _, _, _] _
            refine ab_cl ok_SF_lent rfl [_, _, _] [_] rfl ⟨_, _, rfl, rfl, Or.inl ⟨_, _, rfl, rfl⟩⟩ (Nat.le_of_ble_eq_true rfl) (t_Sc_printOf d fm X s t (show k < 6 by omega) hf) ?_
            rintro _ _ ⟨rfl, rfl⟩
            show ab_Z m_SF_lent _ _ _ 34 [_, _, _, _, _] [_, _] _
            refine ab_go ok_SF_lent 4 rfl ?_
            show ab_Z m_SF_lent _ _ _ 14 [_, _, _, _, _] [] _
            exact ih
          · intro h2
            show ab_Z m_SF_lent _ _ _ 36 [_, _, _, _, _] [] _
            rw [if_neg h2] at ih
            refine ab_go ok_SF_lent 2 rfl ?_
            show ab_Z m_SF_lent _ _ _ 14 [_, _, _, _, _] [] _
            exact ih
theorem t_SF_apart (hC : CI s nc nd nt PT PG PB PF) (x y : Int32) : ab_T g_SF_apart (d + 3) (0, 0) [.ref 0, .int x, .int y] (HA fm X s t) (P2 (if inR nd x ∧ inR nd y then aptV s x.toNatClampNeg y.toNatClampNeg else -1) fm X s t) := by
  have h6 : nd ≤ 6 := hC.1.2.2.2.1
  refine ab_T_of (M := m_SF_apart) rfl rfl (Nat.le_of_ble_eq_true rfl) ?_
  show ab_Z m_SF_apart _ _ _ 0 [_, _, _] [] _
  refine ab_go ok_SF_apart 3 rfl ?_
  show ab_Z m_SF_apart _ _ _ 3 [_, _, _] [_, _] _
  refine ab_cl ok_SF_apart rfl [_, _] [] rfl ⟨_, _, rfl, rfl, Or.inl ⟨_, _, rfl, rfl⟩⟩ (Nat.le_of_ble_eq_true rfl) (t_Ha_isDeed' (d + 2) fm X s t hC.1 x) ?_
  rintro _ _ ⟨rfl, rfl⟩
  show ab_Z m_SF_apart _ _ _ 4 [_, _, _] [_] _
  refine ab_br ok_SF_apart rfl rfl ?_ ?_
  · intro h1
    show ab_Z m_SF_apart _ _ _ 16 [_, _, _] [] _
    refine ab_go ok_SF_apart 1 rfl ?_
    show ab_Z m_SF_apart _ _ _ 17 [_, _, _] [_] _
    exact ab_rI ok_SF_apart rfl (⟨by rw [if_neg (fun q => bI_0.mp h1 q.1)], s, rfl, Kp2.rf s⟩)
  · intro h1
    show ab_Z m_SF_apart _ _ _ 5 [_, _, _] [] _
    refine ab_go ok_SF_apart 3 rfl ?_
    show ab_Z m_SF_apart _ _ _ 8 [_, _, _] [_, _] _
    refine ab_cl ok_SF_apart rfl [_, _] [] rfl ⟨_, _, rfl, rfl, Or.inl ⟨_, _, rfl, rfl⟩⟩ (Nat.le_of_ble_eq_true rfl) (t_Ha_isDeed' (d + 2) fm X s t hC.1 y) ?_
    rintro _ _ ⟨rfl, rfl⟩
    show ab_Z m_SF_apart _ _ _ 9 [_, _, _] [_] _
    refine ab_br ok_SF_apart rfl rfl ?_ ?_
    · intro h3
      show ab_Z m_SF_apart _ _ _ 16 [_, _, _] [] _
      refine ab_go ok_SF_apart 1 rfl ?_
      show ab_Z m_SF_apart _ _ _ 17 [_, _, _] [_] _
      exact ab_rI ok_SF_apart rfl (⟨by rw [if_neg (fun q => bI_0.mp h3 q.2)], s, rfl, Kp2.rf s⟩)
    · intro h3
      show ab_Z m_SF_apart _ _ _ 10 [_, _, _] [] _
      have g1 := bI_n0 h1
      have g3 := bI_n0 h3
      clear h1 h3
      rw [if_pos ⟨g1, g3⟩]
      obtain ⟨a, ha, rfl⟩ := inR_nat g1
      obtain ⟨b, hb, rfl⟩ := inR_nat g3
      rw [nI_c (n := a) (by omega), nI_c (n := b) (by omega)]
      refine ab_go ok_SF_apart 4 rfl ?_
      show ab_Z m_SF_apart _ _ _ 14 [_, _, _] [_, _, _] _
      refine ab_cl ok_SF_apart rfl [_, _, _] [] rfl ⟨_, _, rfl, rfl, Or.inl ⟨_, _, rfl, rfl⟩⟩ (Nat.le_of_ble_eq_true rfl) (t_Ha_printsDiffer d fm X s t (show a < 6 by omega) (show b < 6 by omega)) ?_
      rintro _ _ ⟨rfl, rfl⟩
      show ab_Z m_SF_apart _ _ _ 15 [_, _, _] [_] _
      refine ab_go ok_SF_apart 1 rfl ?_
      show ab_Z m_SF_apart _ _ _ 17 [_, _, _] [_] _
      exact ab_rI ok_SF_apart rfl (⟨rfl, s, rfl, Kp2.rf s⟩)
theorem t_SF_levelIn (hC : CI s nc nd nt PT PG PB PF) (x y z : Int32) : ab_T g_SF_levelIn (d + 5) (0, 0) [.ref 0, .int x, .int y, .int z] (HA fm X s t) (P2 (if inR (if 1 = 1 then nc else nd) x ∧ inR 3 y ∧ inR 41 z then (if 1 = 1 then levA s PG nd x.toNatClampNeg y.toNatClampNeg z.toNatClampNeg else prtA s PF x.toNatClampNeg y.toNatClampNeg z.toNatClampNeg) else -1) fm X s t) := by
  have h5 : nc ≤ 5 := hC.1.2.1
  have h6 : nd ≤ 6 := hC.1.2.2.2.1
  refine ab_T_of (M := m_SF_levelIn) rfl rfl (Nat.le_of_ble_eq_true rfl) ?_
  show ab_Z m_SF_levelIn _ _ _ 0 [_, _, _, _] [] _
  refine ab_go ok_SF_levelIn 3 rfl ?_
  show ab_Z m_SF_levelIn _ _ _ 3 [_, _, _, _] [_, _] _
  refine ab_cl ok_SF_levelIn rfl [_, _] [] rfl ⟨_, _, rfl, rfl, Or.inl ⟨_, _, rfl, rfl⟩⟩ (Nat.le_of_ble_eq_true rfl) (t_Ha_isClerk' (d + 4) fm X s t hC.1 x) ?_
  rintro _ _ ⟨rfl, rfl⟩
  show ab_Z m_SF_levelIn _ _ _ 4 [_, _, _, _] [_] _
  refine ab_br ok_SF_levelIn rfl rfl ?_ ?_
  · intro h1
    show ab_Z m_SF_levelIn _ _ _ 13 [_, _, _, _] [] _
    refine ab_go ok_SF_levelIn 1 rfl ?_
    show ab_Z m_SF_levelIn _ _ _ 14 [_, _, _, _] [_] _
    exact ab_rI ok_SF_levelIn rfl (⟨by rw [if_neg (fun q => bI_0.mp h1 q.1)], s, rfl, Kp2.rf s⟩)
  · intro h1
    show ab_Z m_SF_levelIn _ _ _ 5 [_, _, _, _] [] _
    refine ab_go ok_SF_levelIn 1 rfl ?_
    show ab_Z m_SF_levelIn _ _ _ 6 [_, _, _, _] [_] _
    refine ab_cl ok_SF_levelIn rfl [_] [] rfl rfl (Nat.le_of_ble_eq_true rfl) (t_SF_isFeature (d + 4) _ y) ?_
    rintro _ _ ⟨rfl, rfl⟩
    show ab_Z m_SF_levelIn _ _ _ 7 [_, _, _, _] [_] _
    refine ab_br ok_SF_levelIn rfl rfl ?_ ?_
    · intro h3
      show ab_Z m_SF_levelIn _ _ _ 13 [_, _, _, _] [] _
      refine ab_go ok_SF_levelIn 1 rfl ?_
      show ab_Z m_SF_levelIn _ _ _ 14 [_, _, _, _] [_] _
      exact ab_rI ok_SF_levelIn rfl (⟨by rw [if_neg (fun q => bI_0.mp h3 q.2.1)], s, rfl, Kp2.rf s⟩)
    · intro h3
      show ab_Z m_SF_levelIn _ _ _ 8 [_, _, _, _] [] _
      refine ab_go ok_SF_levelIn 1 rfl ?_
      show ab_Z m_SF_levelIn _ _ _ 9 [_, _, _, _] [_] _
      refine ab_br ok_SF_levelIn rfl rfl ?_ ?_
      · intro h4
        show ab_Z m_SF_levelIn _ _ _ 13 [_, _, _, _] [] _
        refine ab_go ok_SF_levelIn 1 rfl ?_
        show ab_Z m_SF_levelIn _ _ _ 14 [_, _, _, _] [_] _
        exact ab_rI ok_SF_levelIn rfl (⟨by rw [if_neg (fun q => by have := i_neg h4; have := q.2.2.1; omega)], s, rfl, Kp2.rf s⟩)
      · intro h4
        show ab_Z m_SF_levelIn _ _ _ 10 [_, _, _, _] [] _
        refine ab_go ok_SF_levelIn 2 rfl ?_
        show ab_Z m_SF_levelIn _ _ _ 12 [_, _, _, _] [_, _] _
        refine ab_br ok_SF_levelIn rfl rfl ?_ ?_
        · intro h5'
          show ab_Z m_SF_levelIn _ _ _ 15 [_, _, _, _] [] _
          have g1 := bI_n0 h1
          have g2 : inR 3 y := bI_n0 h3
          have g3 : inR 41 z := ⟨i_nn h4, by have := i_leR (z := 40) rfl h5'; omega⟩
          clear h1 h3 h4 h5'
          rw [if_pos ⟨g1, g2, g3⟩]
          obtain ⟨c, hc, rfl⟩ := inR_nat g1
          obtain ⟨f, hf, rfl⟩ := inR_nat g2
          obtain ⟨n, hn, rfl⟩ := inR_nat g3
          rw [nI_c (n := c) (by omega), nI_c (n := f) (by omega), nI_c (n := n) (by omega)]
          refine ab_go ok_SF_levelIn 5 rfl ?_
          show ab_Z m_SF_levelIn _ _ _ 20 [_, _, _, _] [_, _, _, _] _
          refine ab_cl ok_SF_levelIn rfl [_, _, _, _] [] rfl ⟨_, _, rfl, rfl, Or.inl ⟨_, _, rfl, rfl⟩⟩ (Nat.le_of_ble_eq_true rfl) ((by first | exact t_Ha_levelAfter d fm X s t hC.1.2.2.2.2.2.2.2.1 hC.1.2.2.1 h6 (show c < 5 by omega) hf (n := n) (by omega) | exact t_Ha_printAfter d fm X s t hC.1.2.2.2.2.2.2.2.2.2 (show c < 6 by omega) hf (n := n) (by omega))) ?_
          rintro _ _ ⟨rfl, s1, rfl, hk⟩
          show ab_Z m_SF_levelIn _ _ _ 21 [_, _, _, _] [_] _
          exact ab_rI ok_SF_levelIn rfl (⟨rfl, s1, rfl, hk.to2⟩)
        · intro h5'
          show ab_Z m_SF_levelIn _ _ _ 13 [_, _, _, _] [] _
          refine ab_go ok_SF_levelIn 1 rfl ?_
          show ab_Z m_SF_levelIn _ _ _ 14 [_, _, _, _] [_] _
          exact ab_rI ok_SF_levelIn rfl (⟨by rw [if_neg (fun q => by have := i_nleR (z := 40) rfl h5'; have := q.2.2.2; omega)], s, rfl, Kp2.rf s⟩)
theorem t_SF_printIn (hC : CI s nc nd nt PT PG PB PF) (x y z : Int32) : ab_T g_SF_printIn (d + 5) (0, 0) [.ref 0, .int x, .int y, .int z] (HA fm X s t) (P2 (if inR (if 2 = 1 then nc else nd) x ∧ inR 3 y ∧ inR 41 z then (if 2 = 1 then levA s PG nd x.toNatClampNeg y.toNatClampNeg z.toNatClampNeg else prtA s PF x.toNatClampNeg y.toNatClampNeg z.toNatClampNeg) else -1) fm X s t) := by
  have h5 : nc ≤ 5 := hC.1.2.1
  have h6 : nd ≤ 6 := hC.1.2.2.2.1
  refine ab_T_of (M := m_SF_printIn) rfl rfl (Nat.le_of_ble_eq_true rfl) ?_
  show ab_Z m_SF_printIn _ _ _ 0 [_, _, _, _] [] _
  refine ab_go ok_SF_printIn 3 rfl ?_
  show ab_Z m_SF_printIn _ _ _ 3 [_, _, _, _] [_, _] _
  refine ab_cl ok_SF_printIn rfl [_, _] [] rfl ⟨_, _, rfl, rfl, Or.inl ⟨_, _, rfl, rfl⟩⟩ (Nat.le_of_ble_eq_true rfl) (t_Ha_isDeed' (d + 4) fm X s t hC.1 x) ?_
  rintro _ _ ⟨rfl, rfl⟩
  show ab_Z m_SF_printIn _ _ _ 4 [_, _, _, _] [_] _
  refine ab_br ok_SF_printIn rfl rfl ?_ ?_
  · intro h1
    show ab_Z m_SF_printIn _ _ _ 13 [_, _, _, _] [] _
    refine ab_go ok_SF_printIn 1 rfl ?_
    show ab_Z m_SF_printIn _ _ _ 14 [_, _, _, _] [_] _
    exact ab_rI ok_SF_printIn rfl (⟨by rw [if_neg (fun q => bI_0.mp h1 q.1)], s, rfl, Kp2.rf s⟩)
  · intro h1
    show ab_Z m_SF_printIn _ _ _ 5 [_, _, _, _] [] _
    refine ab_go ok_SF_printIn 1 rfl ?_
    show ab_Z m_SF_printIn _ _ _ 6 [_, _, _, _] [_] _
    refine ab_cl ok_SF_printIn rfl [_] [] rfl rfl (Nat.le_of_ble_eq_true rfl) (t_SF_isFeature (d + 4) _ y) ?_
    rintro _ _ ⟨rfl, rfl⟩
    show ab_Z m_SF_printIn _ _ _ 7 [_, _, _, _] [_] _
    refine ab_br ok_SF_printIn rfl rfl ?_ ?_
    · intro h3
      show ab_Z m_SF_printIn _ _ _ 13 [_, _, _, _] [] _
      refine ab_go ok_SF_printIn 1 rfl ?_
      show ab_Z m_SF_printIn _ _ _ 14 [_, _, _, _] [_] _
      exact ab_rI ok_SF_printIn rfl (⟨by rw [if_neg (fun q => bI_0.mp h3 q.2.1)], s, rfl, Kp2.rf s⟩)
    · intro h3
      show ab_Z m_SF_printIn _ _ _ 8 [_, _, _, _] [] _
      refine ab_go ok_SF_printIn 1 rfl ?_
      show ab_Z m_SF_printIn _ _ _ 9 [_, _, _, _] [_] _
      refine ab_br ok_SF_printIn rfl rfl ?_ ?_
      · intro h4
        show ab_Z m_SF_printIn _ _ _ 13 [_, _, _, _] [] _
        refine ab_go ok_SF_printIn 1 rfl ?_
        show ab_Z m_SF_printIn _ _ _ 14 [_, _, _, _] [_] _
        exact ab_rI ok_SF_printIn rfl (⟨by rw [if_neg (fun q => by have := i_neg h4; have := q.2.2.1; omega)], s, rfl, Kp2.rf s⟩)
      · intro h4
        show ab_Z m_SF_printIn _ _ _ 10 [_, _, _, _] [] _
        refine ab_go ok_SF_printIn 2 rfl ?_
        show ab_Z m_SF_printIn _ _ _ 12 [_, _, _, _] [_, _] _
        refine ab_br ok_SF_printIn rfl rfl ?_ ?_
        · intro h5'
          show ab_Z m_SF_printIn _ _ _ 15 [_, _, _, _] [] _
          have g1 := bI_n0 h1
          have g2 : inR 3 y := bI_n0 h3
          have g3 : inR 41 z := ⟨i_nn h4, by have := i_leR (z := 40) rfl h5'; omega⟩
          clear h1 h3 h4 h5'
          rw [if_pos ⟨g1, g2, g3⟩]
          obtain ⟨c, hc, rfl⟩ := inR_nat g1
          obtain ⟨f, hf, rfl⟩ := inR_nat g2
          obtain ⟨n, hn, rfl⟩ := inR_nat g3
          rw [nI_c (n := c) (by omega), nI_c (n := f) (by omega), nI_c (n := n) (by omega)]
          refine ab_go ok_SF_printIn 5 rfl ?_
          show ab_Z m_SF_printIn _ _ _ 20 [_, _, _, _] [_, _, _, _] _
          refine ab_cl ok_SF_printIn rfl [_, _, _, _] [] rfl ⟨_, _, rfl, rfl, Or.inl ⟨_, _, rfl, rfl⟩⟩ (Nat.le_of_ble_eq_true rfl) ((by first | exact t_Ha_levelAfter d fm X s t hC.1.2.2.2.2.2.2.2.1 hC.1.2.2.1 h6 (show c < 5 by omega) hf (n := n) (by omega) | exact t_Ha_printAfter d fm X s t hC.1.2.2.2.2.2.2.2.2.2 (show c < 6 by omega) hf (n := n) (by omega))) ?_
          rintro _ _ ⟨rfl, s1, rfl, hk⟩
          show ab_Z m_SF_printIn _ _ _ 21 [_, _, _, _] [_] _
          exact ab_rI ok_SF_printIn rfl (⟨rfl, s1, rfl, hk.to2⟩)
        · intro h5'
          show ab_Z m_SF_printIn _ _ _ 13 [_, _, _, _] [] _
          refine ab_go ok_SF_printIn 1 rfl ?_
          show ab_Z m_SF_printIn _ _ _ 14 [_, _, _, _] [_] _
          exact ab_rI ok_SF_printIn rfl (⟨by rw [if_neg (fun q => by have := i_nleR (z := 40) rfl h5'; have := q.2.2.2; omega)], s, rfl, Kp2.rf s⟩)
theorem t_SF_bindsIn (hC : CI s nc nd nt PT PG PB PF) (z : Int32) : ab_T g_SF_bindsIn (d + 7) (0, 0) [.ref 0, .int z] (HA fm X s t) (P2 (if inR 41 z then sumV (fun e => bdV s PB PF nd e z.toNatClampNeg) nd else -1) fm X s t) := by
  have h5 : nc ≤ 5 := hC.1.2.1
  have h6 : nd ≤ 6 := hC.1.2.2.2.1
  refine ab_T_of (M := m_SF_bindsIn) rfl rfl (Nat.le_of_ble_eq_true rfl) ?_
  show ab_Z m_SF_bindsIn _ _ _ 0 [_, _] [] _
  refine ab_go ok_SF_bindsIn 1 rfl ?_
  show ab_Z m_SF_bindsIn _ _ _ 1 [_, _] [_] _
  refine ab_br ok_SF_bindsIn rfl rfl ?_ ?_
  · intro h4
    show ab_Z m_SF_bindsIn _ _ _ 5 [_, _] [] _
    refine ab_go ok_SF_bindsIn 2 rfl ?_
    show ab_Z m_SF_bindsIn _ _ _ 11 [_, _] [_] _
    exact ab_rI ok_SF_bindsIn rfl (⟨by rw [if_neg (fun q => by have := i_neg h4; have := q.1; omega)], s, rfl, Kp2.rf s⟩)
  · intro h4
    show ab_Z m_SF_bindsIn _ _ _ 2 [_, _] [] _
    refine ab_go ok_SF_bindsIn 2 rfl ?_
    show ab_Z m_SF_bindsIn _ _ _ 4 [_, _] [_, _] _
    refine ab_br ok_SF_bindsIn rfl rfl ?_ ?_
    · intro h5'
      show ab_Z m_SF_bindsIn _ _ _ 7 [_, _] [] _
      have g3 : inR 41 z := ⟨i_nn h4, by have := i_leR (z := 40) rfl h5'; omega⟩
      rw [if_pos g3]
      clear h4 h5'
      obtain ⟨n, hn, rfl⟩ := inR_nat g3
      rw [nI_c (n := n) (by omega)]
      refine ab_go ok_SF_bindsIn 3 rfl ?_
      show ab_Z m_SF_bindsIn _ _ _ 10 [_, _] [_, _] _
      refine ab_cl ok_SF_bindsIn rfl [_, _] [] rfl ⟨_, _, rfl, rfl, Or.inl ⟨_, _, rfl, rfl⟩⟩ (Nat.le_of_ble_eq_true rfl) (t_Ha_allBindAfter d fm X s t hC.1.2.2.2.2.2.2.2.2.1 hC.1.2.2.2.2.2.2.2.2.2 hC.1.2.2.1 h6 h5 hC.2 (n := n) (by omega)) ?_
      rintro _ _ ⟨rfl, s1, rfl, hk⟩
      show ab_Z m_SF_bindsIn _ _ _ 11 [_, _] [_] _
      exact ab_rI ok_SF_bindsIn rfl (⟨rfl, s1, rfl, hk.to2⟩)
    · intro h5'
      show ab_Z m_SF_bindsIn _ _ _ 5 [_, _] [] _
      refine ab_go ok_SF_bindsIn 2 rfl ?_
      show ab_Z m_SF_bindsIn _ _ _ 11 [_, _] [_] _
      exact ab_rI ok_SF_bindsIn rfl (⟨by rw [if_neg (fun q => by have := i_nleR (z := 40) rfl h5'; have := q.2; omega)], s, rfl, Kp2.rf s⟩)
theorem t_SF_reads (hC : CI s nc nd nt PT PG PB PF) (x : Int32) : ab_T g_SF_reads (d + 3) (0, 0) [.ref 0, .int x] (HA fm X s t) (P2 (if inR nd x then (if s 11 (33 + x.toNatClampNeg) < 0 then -2 else rdV s x.toNatClampNeg (s 14 15)) else -1) fm X s t) := by
  have h6 : nd ≤ 6 := hC.1.2.2.2.1
  refine ab_T_of (M := m_SF_reads) rfl rfl (Nat.le_of_ble_eq_true rfl) ?_
  show ab_Z m_SF_reads _ _ _ 0 [_, _] [] _
  refine ab_go ok_SF_reads 3 rfl ?_
  show ab_Z m_SF_reads _ _ _ 3 [_, _] [_, _] _
  refine ab_cl ok_SF_reads rfl [_, _] [] rfl ⟨_, _, rfl, rfl, Or.inl ⟨_, _, rfl, rfl⟩⟩ (Nat.le_of_ble_eq_true rfl) (t_Ha_isDeed' (d + 2) fm X s t hC.1 x) ?_
  rintro _ _ ⟨rfl, rfl⟩
  show ab_Z m_SF_reads _ _ _ 4 [_, _] [_] _
  refine ab_br ok_SF_reads rfl rfl ?_ ?_
  · intro h1
    show ab_Z m_SF_reads _ _ _ 5 [_, _] [] _
    refine ab_go ok_SF_reads 1 rfl ?_
    show ab_Z m_SF_reads _ _ _ 6 [_, _] [_] _
    exact ab_rI ok_SF_reads rfl (⟨by rw [if_neg (bI_0.mp h1)], s, rfl, Kp2.rf s⟩)
  · intro h1
    show ab_Z m_SF_reads _ _ _ 7 [_, _] [] _
    have h2 := bI_n0 h1
    rw [if_pos h2]
    clear h1
    obtain ⟨e, he, rfl⟩ := inR_nat h2
    rw [nI_c (by omega)]
    refine ab_go ok_SF_reads 3 rfl ?_
    show ab_Z m_SF_reads _ _ _ 10 [_, _] [_, _] _
    refine ab_cl ok_SF_reads rfl [_, _] [] rfl ⟨_, _, rfl, rfl, Or.inl ⟨_, _, rfl, rfl⟩⟩ (Nat.le_of_ble_eq_true rfl) (t_Ha_isSealed (d + 1) fm X s t he hC.1.2.2.1 h6) ?_
    rintro _ _ ⟨rfl, rfl⟩
    show ab_Z m_SF_reads _ _ _ 11 [_, _] [_] _
    refine ab_br ok_SF_reads rfl rfl ?_ ?_
    · intro h3
      show ab_Z m_SF_reads _ _ _ 21 [_, _] [] _
      have h4 : s 11 (33 + e) < 0 := by
        have := bB_0.mp h3
        rw [Bool.not_eq_false'] at this
        exact of_decide_eq_true this
      refine ab_go ok_SF_reads 1 rfl ?_
      show ab_Z m_SF_reads _ _ _ 22 [_, _] [_] _
      exact ab_rI ok_SF_reads rfl (⟨by rw [if_pos h4], s, rfl, Kp2.rf s⟩)
    · intro h3
      show ab_Z m_SF_reads _ _ _ 12 [_, _] [] _
      have h4 : ¬ s 11 (33 + e) < 0 := by
        have := bB_n0 h3
        rw [Bool.not_eq_true'] at this
        exact of_decide_eq_false this
      refine ab_go ok_SF_reads 7 rfl ?_
      show ab_Z m_SF_reads _ _ _ 19 [_, _] [_, _, _] _
      refine ab_cl ok_SF_reads rfl [_, _, _] [] rfl ⟨_, _, rfl, rfl, Or.inl ⟨_, _, rfl, rfl⟩⟩ (Nat.le_of_ble_eq_true rfl) (t_Ha_readBy d fm X s t (show e < 6 by omega) (s 14 15)) ?_
      rintro _ _ ⟨rfl, rfl⟩
      show ab_Z m_SF_reads _ _ _ 20 [_, _] [_] _
      refine ab_go ok_SF_reads 1 rfl ?_
      show ab_Z m_SF_reads _ _ _ 22 [_, _] [_] _
      exact ab_rI ok_SF_reads rfl (⟨by rw [if_neg h4], s, rfl, Kp2.rf s⟩)
theorem t_SF_year (hC : CI s nc nd nt PT PG PB PF) (x y : Int32) : ab_T g_SF_year (d + 3) (0, 0) [.ref 0, .int x, .int y] (HA fm X s t) (P2 (if inR nd x ∧ 1 ≤ y.toInt ∧ y.toInt ≤ 20 then (if s 11 (33 + x.toNatClampNeg) < 0 then 0 else nI (cntN (fun i => decide (rdV s x.toNatClampNeg (s 14 15 + nI i) = s 11 (33 + x.toNatClampNeg))) y.toNatClampNeg)) else -1) fm X s t) := by
  have h6 : nd ≤ 6 := hC.1.2.2.2.1
  refine ab_T_of (M := m_SF_year) rfl rfl (Nat.le_of_ble_eq_true rfl) ?_
  show ab_Z m_SF_year _ _ _ 0 [_, _, _, _, _] [] _
  refine ab_go ok_SF_year 3 rfl ?_
  show ab_Z m_SF_year _ _ _ 3 [_, _, _, _, _] [_, _] _
  refine ab_cl ok_SF_year rfl [_, _] [] rfl ⟨_, _, rfl, rfl, Or.inl ⟨_, _, rfl, rfl⟩⟩ (Nat.le_of_ble_eq_true rfl) (t_Ha_isDeed' (d + 2) fm X s t hC.1 x) ?_
  rintro _ _ ⟨rfl, rfl⟩
  show ab_Z m_SF_year _ _ _ 4 [_, _, _, _, _] [_] _
  refine ab_br ok_SF_year rfl rfl ?_ ?_
  · intro h1
    show ab_Z m_SF_year _ _ _ 11 [_, _, _, _, _] [] _
    refine ab_go ok_SF_year 1 rfl ?_
    show ab_Z m_SF_year _ _ _ 12 [_, _, _, _, _] [_] _
    exact ab_rI ok_SF_year rfl (⟨by rw [if_neg (fun q => bI_0.mp h1 q.1)], s, rfl, Kp2.rf s⟩)
  · intro h1
    show ab_Z m_SF_year _ _ _ 5 [_, _, _, _, _] [] _
    refine ab_go ok_SF_year 2 rfl ?_
    show ab_Z m_SF_year _ _ _ 7 [_, _, _, _, _] [_, _] _
    refine ab_br ok_SF_year rfl rfl ?_ ?_
    · intro h4
      show ab_Z m_SF_year _ _ _ 11 [_, _, _, _, _] [] _
      refine ab_go ok_SF_year 1 rfl ?_
      show ab_Z m_SF_year _ _ _ 12 [_, _, _, _, _] [_] _
      exact ab_rI ok_SF_year rfl (⟨by rw [if_neg (fun q => by have := i_ltR (z := 1) rfl h4; have := q.2.1; omega)], s, rfl, Kp2.rf s⟩)
    · intro h4
      show ab_Z m_SF_year _ _ _ 8 [_, _, _, _, _] [] _
      refine ab_go ok_SF_year 2 rfl ?_
      show ab_Z m_SF_year _ _ _ 10 [_, _, _, _, _] [_, _] _
      refine ab_br ok_SF_year rfl rfl ?_ ?_
      · intro h5'
        show ab_Z m_SF_year _ _ _ 13 [_, _, _, _, _] [] _
        have g1 := bI_n0 h1
        have g3 : 1 ≤ y.toInt ∧ y.toInt ≤ 20 := ⟨i_nltR (z := 1) rfl h4, i_leR (z := 20) rfl h5'⟩
        clear h1 h4 h5'
        rw [if_pos ⟨g1, g3⟩]
        obtain ⟨e, he, rfl⟩ := inR_nat g1
        obtain ⟨n, hn, rfl⟩ := inR_nat (n := 21) (x := y) ⟨by omega, by omega⟩
        rw [nI_c (n := e) (by omega), nI_c (n := n) (by omega)]
        refine ab_go ok_SF_year 3 rfl ?_
        show ab_Z m_SF_year _ _ _ 16 [_, _, _, _, _] [_, _] _
        refine ab_cl ok_SF_year rfl [_, _] [] rfl ⟨_, _, rfl, rfl, Or.inl ⟨_, _, rfl, rfl⟩⟩ (Nat.le_of_ble_eq_true rfl) (t_Ha_isSealed (d + 1) fm X s t he hC.1.2.2.1 h6) ?_
        rintro _ _ ⟨rfl, rfl⟩
        show ab_Z m_SF_year _ _ _ 17 [_, _, _, _, _] [_] _
        refine ab_br ok_SF_year rfl rfl ?_ ?_
        · intro h3
          show ab_Z m_SF_year _ _ _ 18 [_, _, _, _, _] [] _
          have h4 : s 11 (33 + e) < 0 := by
            have := bB_0.mp h3
            rw [Bool.not_eq_false'] at this
            exact of_decide_eq_true this
          refine ab_go ok_SF_year 1 rfl ?_
          show ab_Z m_SF_year _ _ _ 19 [_, _, _, _, _] [_] _
          exact ab_rI ok_SF_year rfl (⟨by rw [if_pos h4], s, rfl, Kp2.rf s⟩)
        · intro h3
          show ab_Z m_SF_year _ _ _ 20 [_, _, _, _, _] [] _
          have h4 : ¬ s 11 (33 + e) < 0 := by
            have := bB_n0 h3
            rw [Bool.not_eq_true'] at this
            exact of_decide_eq_false this
          rw [if_neg h4]
          refine ab_go ok_SF_year 4 rfl ?_
          show ab_Z m_SF_year _ _ _ 24 [_, _, _, _, _] [] _
          generalize hg : (fun i => decide (rdV s e (s 14 15 + nI i) = s 11 (33 + e))) = g
          refine lp_dn n (fun k => ab_Z m_SF_year (d + 3) (0, 0) (P2 (nI (cntN g n)) fm X s t) 24 [some (.ref 0), some (.int (nI e)), some (.int (nI n)), some (.int (nI (cntN g k))), some (.int (nI k))] [] (HA fm X s t)) ?_ ?_
          · refine ab_go ok_SF_year 2 rfl ?_
            show ab_Z m_SF_year _ _ _ 26 [_, _, _, _, _] [_, _] _
            refine ab_br ok_SF_year rfl rfl ?_ ?_
            · intro h1
              show ab_Z m_SF_year _ _ _ 46 [_, _, _, _, _] [] _
              refine ab_go ok_SF_year 1 rfl ?_
              show ab_Z m_SF_year _ _ _ 47 [_, _, _, _, _] [_] _
              exact ab_rI ok_SF_year rfl (⟨rfl, s, rfl, Kp2.rf s⟩)
            · intro h1
              show ab_Z m_SF_year _ _ _ 27 [_, _, _, _, _] [] _
              exact absurd (lp_out n) h1
          · intro k hk ih
            refine ab_go ok_SF_year 2 rfl ?_
            show ab_Z m_SF_year _ _ _ 26 [_, _, _, _, _] [_, _] _
            refine ab_br ok_SF_year rfl rfl ?_ ?_
            · intro h1
              show ab_Z m_SF_year _ _ _ 46 [_, _, _, _, _] [] _
              exact absurd h1 (lp_in (by omega) hk)
            · intro h1
              show ab_Z m_SF_year _ _ _ 27 [_, _, _, _, _] [] _
              refine ab_go ok_SF_year 9 rfl ?_
              show ab_Z m_SF_year _ _ _ 36 [_, _, _, _, _] [_, _, _] _
              refine ab_cl ok_SF_year rfl [_, _, _] [] rfl ⟨_, _, rfl, rfl, Or.inl ⟨_, _, rfl, rfl⟩⟩ (Nat.le_of_ble_eq_true rfl) (t_Ha_readBy d fm X s t (show e < 6 by omega) (s 14 15 + nI k)) ?_
              rintro _ _ ⟨rfl, rfl⟩
              show ab_Z m_SF_year _ _ _ 37 [_, _, _, _, _] [_] _
              refine ab_go ok_SF_year 4 rfl ?_
              show ab_Z m_SF_year _ _ _ 41 [_, _, _, _, _] [_, _, _] _
              refine ab_cl ok_SF_year rfl [_, _] [_] rfl ⟨_, _, rfl, rfl, Or.inl ⟨_, _, rfl, rfl⟩⟩ (Nat.le_of_ble_eq_true rfl) (t_Sc_sealerOf (d + 2) fm X s t (show e < 6 by omega)) ?_
              rintro _ _ ⟨rfl, rfl⟩
              show ab_Z m_SF_year _ _ _ 42 [_, _, _, _, _] [_, _] _
              refine ab_br ok_SF_year rfl rfl ?_ ?_
              · intro h2
                show ab_Z m_SF_year _ _ _ 43 [_, _, _, _, _] [] _
                have hgk : g k = true := by rw [← hg]; exact decide_eq_true h2
                rw [cntN, hgk, nI_succ] at ih
                refine ab_go ok_SF_year 3 rfl ?_
                show ab_Z m_SF_year _ _ _ 24 [_, _, _, _, _] [] _
                rw [← nI_succ (cntN g k)]
                exact ih
              · intro h2
                show ab_Z m_SF_year _ _ _ 44 [_, _, _, _, _] [] _
                have hgk : g k = false := by rw [← hg]; exact decide_eq_false h2
                rw [cntN, hgk, nI_succ] at ih
                refine ab_go ok_SF_year 2 rfl ?_
                show ab_Z m_SF_year _ _ _ 24 [_, _, _, _, _] [] _
                exact ih
      · intro h5'
        show ab_Z m_SF_year _ _ _ 11 [_, _, _, _, _] [] _
        refine ab_go ok_SF_year 1 rfl ?_
        show ab_Z m_SF_year _ _ _ 12 [_, _, _, _, _] [_] _
        exact ab_rI ok_SF_year rfl (⟨by rw [if_neg (fun q => by have := i_nleR (z := 20) rfl h5'; have := q.2.2; omega)], s, rfl, Kp2.rf s⟩)
theorem t_SF_greatest (hC : CI s nc nd nt PT PG PB PF) (w : Int32) : ab_T g_SF_greatest (d + 6) (0, 0) [.ref 0, .int w] (HA fm X s t) (P2 (if w = 0 ∨ w = 1 then selA (greV (fun e => bdV s PB PF nd e 0) nd) w else -1) fm X s t) := by
  have h5 : nc ≤ 5 := hC.1.2.1
  have h6 : nd ≤ 6 := hC.1.2.2.2.1
  refine ab_T_of (M := m_SF_greatest) rfl rfl (Nat.le_of_ble_eq_true rfl) ?_
  show ab_Z m_SF_greatest _ _ _ 0 [_, _, _, _, _, _] [] _
  refine ab_go ok_SF_greatest 1 rfl ?_
  show ab_Z m_SF_greatest _ _ _ 1 [_, _, _, _, _, _] [_] _
  refine ab_cl ok_SF_greatest rfl [_] [] rfl rfl (Nat.le_of_ble_eq_true rfl) (t_SF_isHow (d + 5) _ w) ?_
  rintro _ _ ⟨rfl, rfl⟩
  show ab_Z m_SF_greatest _ _ _ 2 [_, _, _, _, _, _] [_] _
  refine ab_br ok_SF_greatest rfl rfl ?_ ?_
  · intro h1
    show ab_Z m_SF_greatest _ _ _ 3 [_, _, _, _, _, _] [] _
    refine ab_go ok_SF_greatest 1 rfl ?_
    show ab_Z m_SF_greatest _ _ _ 4 [_, _, _, _, _, _] [_] _
    exact ab_rI ok_SF_greatest rfl (⟨by rw [if_neg (bI_0.mp h1)], s, rfl, Kp2.rf s⟩)
  · intro h1
    show ab_Z m_SF_greatest _ _ _ 5 [_, _, _, _, _, _] [] _
    have h2 := bI_n0 h1
    rw [if_pos h2]
    clear h1
    refine ab_go ok_SF_greatest 6 rfl ?_
    show ab_Z m_SF_greatest _ _ _ 11 [_, _, _, _, _, _] [] _
    generalize hg : (fun e => bdV s PB PF nd e 0) = g
    refine lp_dn nd (fun k => ∀ s1, Kp2 s s1 → ab_Z m_SF_greatest (d + 6) (0, 0) (P2 (selA (greV g nd) w) fm X s t) 11 [some (.ref 0), some (.int w), some (.int (greV g k).1), some (.int (greV g k).2), some (.int (nI k)), none] [] (HA fm X s1 t)) ?_ ?_ s (Kp2.rf s)
    · intro s1 hs
      refine ab_go ok_SF_greatest 5 rfl ?_
      show ab_Z m_SF_greatest _ _ _ 16 [_, _, _, _, _, _] [_, _] _
      rw [hs 14 12 rfl (by decide), hC.1.2.2.1]
      refine ab_br ok_SF_greatest rfl rfl ?_ ?_
      · intro h1
        show ab_Z m_SF_greatest _ _ _ 32 [_, _, _, _, _, _] [] _
        refine ab_go ok_SF_greatest 1 rfl ?_
        show ab_Z m_SF_greatest _ _ _ 33 [_, _, _, _, _, _] [_] _
        refine ab_br ok_SF_greatest rfl rfl ?_ ?_
        · intro h3
          show ab_Z m_SF_greatest _ _ _ 34 [_, _, _, _, _, _] [] _
          refine ab_go ok_SF_greatest 2 rfl ?_
          show ab_Z m_SF_greatest _ _ _ 37 [_, _, _, _, _, _] [_] _
          exact ab_rI ok_SF_greatest rfl (⟨by rw [selA, if_pos h3], s1, rfl, hs⟩)
        · intro h3
          show ab_Z m_SF_greatest _ _ _ 36 [_, _, _, _, _, _] [] _
          refine ab_go ok_SF_greatest 1 rfl ?_
          show ab_Z m_SF_greatest _ _ _ 37 [_, _, _, _, _, _] [_] _
          exact ab_rI ok_SF_greatest rfl (⟨by rw [selA, if_neg h3], s1, rfl, hs⟩)
      · intro h1
        show ab_Z m_SF_greatest _ _ _ 17 [_, _, _, _, _, _] [] _
        exact absurd (lp_out nd) h1
    · intro k hk ih s1 hs
      refine ab_go ok_SF_greatest 5 rfl ?_
      show ab_Z m_SF_greatest _ _ _ 16 [_, _, _, _, _, _] [_, _] _
      rw [hs 14 12 rfl (by decide), hC.1.2.2.1]
      refine ab_br ok_SF_greatest rfl rfl ?_ ?_
      · intro h1
        show ab_Z m_SF_greatest _ _ _ 32 [_, _, _, _, _, _] [] _
        exact absurd h1 (lp_in (by omega) hk)
      · intro h1
        show ab_Z m_SF_greatest _ _ _ 17 [_, _, _, _, _, _] [] _
        refine ab_go ok_SF_greatest 4 rfl ?_
        show ab_Z m_SF_greatest _ _ _ 21 [_, _, _, _, _, _] [_, _, _] _
        have hC1 := hC.1.kp hs
        refine ab_cl ok_SF_greatest rfl [_, _, _] [] rfl ⟨_, _, rfl, rfl, Or.inl ⟨_, _, rfl, rfl⟩⟩ (Nat.le_of_ble_eq_true rfl) (t_Ha_bindsAfter d fm X s1 t hC1.2.2.2.2.2.2.2.2.1 hC1.2.2.2.2.2.2.2.2.2 hC1.2.2.1 h6 h5 (hC.2.kp hs) hk (n := 0) (by decide)) ?_
        rintro _ _ ⟨rfl, s2, rfl, hk2⟩
        show ab_Z m_SF_greatest _ _ _ 22 [_, _, _, _, _, _] [_] _
        rw [bdV_kp hs, show bdV s PB PF nd k 0 = g k from by rw [← hg]]
        refine ab_go ok_SF_greatest 3 rfl ?_
        show ab_Z m_SF_greatest _ _ _ 25 [_, _, _, _, _, _] [_, _] _
        have ih2 := ih s2 (hs.tr hk2.to2)
        rw [greV, nI_succ] at ih2
        refine ab_br ok_SF_greatest rfl rfl ?_ ?_
        · intro h3
          show ab_Z m_SF_greatest _ _ _ 30 [_, _, _, _, _, _] [] _
          rw [if_neg (by intro q; have := i_lt q; have := i_le h3; omega)] at ih2
          refine ab_go ok_SF_greatest 2 rfl ?_
          show ab_Z m_SF_greatest _ _ _ 11 [_, _, _, _, _, _] [] _
          exact ih2
        · intro h3
          show ab_Z m_SF_greatest _ _ _ 26 [_, _, _, _, _, _] [] _
          rw [if_pos (Int32.lt_iff_toInt_lt.mpr (i_nle h3))] at ih2
          refine ab_go ok_SF_greatest 6 rfl ?_
          show ab_Z m_SF_greatest _ _ _ 11 [_, _, _, _, _, _] [] _
          exact ih2
theorem t_SF_barest (hC : CI s nc nd nt PT PG PB PF) (w : Int32) : ab_T g_SF_barest (d + 3) (0, 0) [.ref 0, .int w] (HA fm X s t) (P2 (if w = 0 ∨ w = 1 then selA (brV (fun c => sumV (fun f => s 11 (3 * c + f)) 3) nc) w else -1) fm X s t) := by
  have h5 : nc ≤ 5 := hC.1.2.1
  refine ab_T_of (M := m_SF_barest) rfl rfl (Nat.le_of_ble_eq_true rfl) ?_
  show ab_Z m_SF_barest _ _ _ 0 [_, _, _, _, _, _] [] _
  refine ab_go ok_SF_barest 1 rfl ?_
  show ab_Z m_SF_barest _ _ _ 1 [_, _, _, _, _, _] [_] _
  refine ab_cl ok_SF_barest rfl [_] [] rfl rfl (Nat.le_of_ble_eq_true rfl) (t_SF_isHow (d + 2) _ w) ?_
  rintro _ _ ⟨rfl, rfl⟩
  show ab_Z m_SF_barest _ _ _ 2 [_, _, _, _, _, _] [_] _
  refine ab_br ok_SF_barest rfl rfl ?_ ?_
  · intro h1
    show ab_Z m_SF_barest _ _ _ 3 [_, _, _, _, _, _] [] _
    refine ab_go ok_SF_barest 1 rfl ?_
    show ab_Z m_SF_barest _ _ _ 4 [_, _, _, _, _, _] [_] _
    exact ab_rI ok_SF_barest rfl (⟨by rw [if_neg (bI_0.mp h1)], s, rfl, Kp2.rf s⟩)
  · intro h1
    show ab_Z m_SF_barest _ _ _ 5 [_, _, _, _, _, _] [] _
    have h2 := bI_n0 h1
    rw [if_pos h2]
    clear h1
    refine ab_go ok_SF_barest 6 rfl ?_
    show ab_Z m_SF_barest _ _ _ 11 [_, _, _, _, _, _] [] _
    generalize hg : (fun c => sumV (fun f => s 11 (3 * c + f)) 3) = g
    refine lp_dn nc (fun k => ab_Z m_SF_barest (d + 3) (0, 0) (P2 (selA (brV g nc) w) fm X s t) 11 [some (.ref 0), some (.int w), some (.int (brV g k).1), some (.int (brV g k).2), some (.int (nI k)), none] [] (HA fm X s t)) ?_ ?_
    · refine ab_go ok_SF_barest 5 rfl ?_
      show ab_Z m_SF_barest _ _ _ 16 [_, _, _, _, _, _] [_, _] _
      rw [hC.1.1]
      refine ab_br ok_SF_barest rfl rfl ?_ ?_
      · intro h1
        show ab_Z m_SF_barest _ _ _ 34 [_, _, _, _, _, _] [] _
        refine ab_go ok_SF_barest 1 rfl ?_
        show ab_Z m_SF_barest _ _ _ 35 [_, _, _, _, _, _] [_] _
        refine ab_br ok_SF_barest rfl rfl ?_ ?_
        · intro h3
          show ab_Z m_SF_barest _ _ _ 36 [_, _, _, _, _, _] [] _
          refine ab_go ok_SF_barest 2 rfl ?_
          show ab_Z m_SF_barest _ _ _ 39 [_, _, _, _, _, _] [_] _
          exact ab_rI ok_SF_barest rfl (⟨by rw [selA, if_pos h3], s, rfl, Kp2.rf s⟩)
        · intro h3
          show ab_Z m_SF_barest _ _ _ 38 [_, _, _, _, _, _] [] _
          refine ab_go ok_SF_barest 1 rfl ?_
          show ab_Z m_SF_barest _ _ _ 39 [_, _, _, _, _, _] [_] _
          exact ab_rI ok_SF_barest rfl (⟨by rw [selA, if_neg h3], s, rfl, Kp2.rf s⟩)
      · intro h1
        show ab_Z m_SF_barest _ _ _ 17 [_, _, _, _, _, _] [] _
        exact absurd (lp_out nc) h1
    · intro k hk ih
      refine ab_go ok_SF_barest 5 rfl ?_
      show ab_Z m_SF_barest _ _ _ 16 [_, _, _, _, _, _] [_, _] _
      rw [hC.1.1]
      refine ab_br ok_SF_barest rfl rfl ?_ ?_
      · intro h1
        show ab_Z m_SF_barest _ _ _ 34 [_, _, _, _, _, _] [] _
        exact absurd h1 (lp_in (by omega) hk)
      · intro h1
        show ab_Z m_SF_barest _ _ _ 17 [_, _, _, _, _, _] [] _
        refine ab_go ok_SF_barest 3 rfl ?_
        show ab_Z m_SF_barest _ _ _ 20 [_, _, _, _, _, _] [_, _] _
        refine ab_cl ok_SF_barest rfl [_, _] [] rfl ⟨_, _, rfl, rfl, Or.inl ⟨_, _, rfl, rfl⟩⟩ (Nat.le_of_ble_eq_true rfl) (t_Ha_levelsOf d fm X s t (show k < 5 by omega)) ?_
        rintro _ _ ⟨rfl, rfl⟩
        show ab_Z m_SF_barest _ _ _ 21 [_, _, _, _, _, _] [_] _
        rw [show sumV (fun f => s 11 (3 * k + f)) 3 = g k from by rw [← hg]]
        refine ab_go ok_SF_barest 3 rfl ?_
        show ab_Z m_SF_barest _ _ _ 24 [_, _, _, _, _, _] [_, _] _
        rw [brV, nI_succ] at ih
        refine ab_br ok_SF_barest rfl rfl ?_ ?_
        · intro h3
          show ab_Z m_SF_barest _ _ _ 28 [_, _, _, _, _, _] [] _
          rw [if_pos (Or.inl h3)] at ih
          refine ab_go ok_SF_barest 6 rfl ?_
          show ab_Z m_SF_barest _ _ _ 11 [_, _, _, _, _, _] [] _
          exact ih
        · intro h3
          show ab_Z m_SF_barest _ _ _ 25 [_, _, _, _, _, _] [] _
          refine ab_go ok_SF_barest 2 rfl ?_
          show ab_Z m_SF_barest _ _ _ 27 [_, _, _, _, _, _] [_, _] _
          refine ab_br ok_SF_barest rfl rfl ?_ ?_
          · intro h4
            show ab_Z m_SF_barest _ _ _ 32 [_, _, _, _, _, _] [] _
            rw [if_neg (by rintro (q | q); exact h3 q; have := i_lt q; have := i_le h4; omega)] at ih
            refine ab_go ok_SF_barest 2 rfl ?_
            show ab_Z m_SF_barest _ _ _ 11 [_, _, _, _, _, _] [] _
            exact ih
          · intro h4
            show ab_Z m_SF_barest _ _ _ 28 [_, _, _, _, _, _] [] _
            rw [if_pos (Or.inr (Int32.lt_iff_toInt_lt.mpr (i_nle h4)))] at ih
            refine ab_go ok_SF_barest 6 rfl ?_
            show ab_Z m_SF_barest _ _ _ 11 [_, _, _, _, _, _] [] _
            exact ih
theorem t_SF_weakest (hC : CI s nc nd nt PT PG PB PF) (w : Int32) : ab_T g_SF_weakest (d + 7) (0, 0) [.ref 0, .int w] (HA fm X s t) (P2 (if w = 0 ∨ w = 1 then selA (wkV (wktV s PB PF nd) nt) w else -1) fm X s t) := by
  have h5 : nc ≤ 5 := hC.1.2.1
  have h6 : nd ≤ 6 := hC.1.2.2.2.1
  have ht6 : nt ≤ 6 := hC.1.2.2.2.2.2.1
  refine ab_T_of (M := m_SF_weakest) rfl rfl (Nat.le_of_ble_eq_true rfl) ?_
  show ab_Z m_SF_weakest _ _ _ 0 [_, _, _, _, _, _] [] _
  refine ab_go ok_SF_weakest 1 rfl ?_
  show ab_Z m_SF_weakest _ _ _ 1 [_, _, _, _, _, _] [_] _
  refine ab_cl ok_SF_weakest rfl [_] [] rfl rfl (Nat.le_of_ble_eq_true rfl) (t_SF_isHow (d + 6) _ w) ?_
  rintro _ _ ⟨rfl, rfl⟩
  show ab_Z m_SF_weakest _ _ _ 2 [_, _, _, _, _, _] [_] _
  refine ab_br ok_SF_weakest rfl rfl ?_ ?_
  · intro h1
    show ab_Z m_SF_weakest _ _ _ 3 [_, _, _, _, _, _] [] _
    refine ab_go ok_SF_weakest 1 rfl ?_
    show ab_Z m_SF_weakest _ _ _ 4 [_, _, _, _, _, _] [_] _
    exact ab_rI ok_SF_weakest rfl (⟨by rw [if_neg (bI_0.mp h1)], s, rfl, Kp2.rf s⟩)
  · intro h1
    show ab_Z m_SF_weakest _ _ _ 5 [_, _, _, _, _, _] [] _
    have h2 := bI_n0 h1
    rw [if_pos h2]
    clear h1
    refine ab_go ok_SF_weakest 6 rfl ?_
    show ab_Z m_SF_weakest _ _ _ 11 [_, _, _, _, _, _] [] _
    generalize hg : wktV s PB PF nd = g
    refine lp_dn nt (fun k => ∀ s1, Kp2 s s1 → ab_Z m_SF_weakest (d + 7) (0, 0) (P2 (selA (wkV g nt) w) fm X s t) 11 [some (.ref 0), some (.int w), some (.int (wkV g k).1), some (.int (wkV g k).2), some (.int (nI k)), none] [] (HA fm X s1 t)) ?_ ?_ s (Kp2.rf s)
    · intro s1 hs
      refine ab_go ok_SF_weakest 5 rfl ?_
      show ab_Z m_SF_weakest _ _ _ 16 [_, _, _, _, _, _] [_, _] _
      rw [hs 14 13 rfl (by decide), hC.1.2.2.2.2.1]
      refine ab_br ok_SF_weakest rfl rfl ?_ ?_
      · intro h1
        show ab_Z m_SF_weakest _ _ _ 44 [_, _, _, _, _, _] [] _
        refine ab_go ok_SF_weakest 1 rfl ?_
        show ab_Z m_SF_weakest _ _ _ 45 [_, _, _, _, _, _] [_] _
        refine ab_br ok_SF_weakest rfl rfl ?_ ?_
        · intro h3
          show ab_Z m_SF_weakest _ _ _ 46 [_, _, _, _, _, _] [] _
          refine ab_go ok_SF_weakest 2 rfl ?_
          show ab_Z m_SF_weakest _ _ _ 49 [_, _, _, _, _, _] [_] _
          exact ab_rI ok_SF_weakest rfl (⟨by rw [selA, if_pos h3], s1, rfl, hs⟩)
        · intro h3
          show ab_Z m_SF_weakest _ _ _ 48 [_, _, _, _, _, _] [] _
          refine ab_go ok_SF_weakest 1 rfl ?_
          show ab_Z m_SF_weakest _ _ _ 49 [_, _, _, _, _, _] [_] _
          exact ab_rI ok_SF_weakest rfl (⟨by rw [selA, if_neg h3], s1, rfl, hs⟩)
      · intro h1
        show ab_Z m_SF_weakest _ _ _ 17 [_, _, _, _, _, _] [] _
        exact absurd (lp_out nt) h1
    · intro k hk ih s1 hs
      have hC1 := hC.1.kp hs
      refine ab_go ok_SF_weakest 5 rfl ?_
      show ab_Z m_SF_weakest _ _ _ 16 [_, _, _, _, _, _] [_, _] _
      rw [hs 14 13 rfl (by decide), hC.1.2.2.2.2.1]
      refine ab_br ok_SF_weakest rfl rfl ?_ ?_
      · intro h1
        show ab_Z m_SF_weakest _ _ _ 44 [_, _, _, _, _, _] [] _
        exact absurd h1 (lp_in (by omega) hk)
      · intro h1
        show ab_Z m_SF_weakest _ _ _ 17 [_, _, _, _, _, _] [] _
        refine ab_go ok_SF_weakest 3 rfl ?_
        show ab_Z m_SF_weakest _ _ _ 20 [_, _, _, _, _, _] [_, _] _
        refine ab_cl ok_SF_weakest rfl [_, _] [] rfl ⟨_, _, rfl, rfl, Or.inl ⟨_, _, rfl, rfl⟩⟩ (Nat.le_of_ble_eq_true rfl) (t_Ha_isHeld (d + 4) fm X s1 t hC1.2.2.1 h6 ht6 (hC.2.kp hs) hk) ?_
        rintro _ _ ⟨rfl, rfl⟩
        show ab_Z m_SF_weakest _ _ _ 21 [_, _, _, _, _, _] [_] _
        rw [heldB_kp hs]
        have hx : ∀ s2, Kp2 s s2 → ab_Z m_SF_weakest (d + 7) (0, 0) (P2 (selA (wkV g nt) w) fm X s t) 28 [some (.ref 0), some (.int w), some (.int (wkV g k).1), some (.int (wkV g k).2), some (.int (nI k)), none] [.int (g k)] (HA fm X s2 t) := by
          intro s2 hs2
          refine ab_go ok_SF_weakest 3 rfl ?_
          show ab_Z m_SF_weakest _ _ _ 31 [_, _, _, _, _, _] [_, _] _
          have ih2 := ih s2 hs2
          rw [wkV, nI_succ] at ih2
          refine ab_br ok_SF_weakest rfl rfl ?_ ?_
          · intro h3
            show ab_Z m_SF_weakest _ _ _ 42 [_, _, _, _, _, _] [] _
            rw [if_neg (fun q => q.1 h3)] at ih2
            refine ab_go ok_SF_weakest 2 rfl ?_
            show ab_Z m_SF_weakest _ _ _ 11 [_, _, _, _, _, _] [] _
            exact ih2
          · intro h3
            show ab_Z m_SF_weakest _ _ _ 32 [_, _, _, _, _, _] [] _
            refine ab_go ok_SF_weakest 2 rfl ?_
            show ab_Z m_SF_weakest _ _ _ 34 [_, _, _, _, _, _] [_, _] _
            refine ab_br ok_SF_weakest rfl rfl ?_ ?_
            · intro h4
              show ab_Z m_SF_weakest _ _ _ 38 [_, _, _, _, _, _] [] _
              rw [if_pos ⟨h3, Or.inl h4⟩] at ih2
              refine ab_go ok_SF_weakest 6 rfl ?_
              show ab_Z m_SF_weakest _ _ _ 11 [_, _, _, _, _, _] [] _
              exact ih2
            · intro h4
              show ab_Z m_SF_weakest _ _ _ 35 [_, _, _, _, _, _] [] _
              refine ab_go ok_SF_weakest 2 rfl ?_
              show ab_Z m_SF_weakest _ _ _ 37 [_, _, _, _, _, _] [_, _] _
              refine ab_br ok_SF_weakest rfl rfl ?_ ?_
              · intro h5
                show ab_Z m_SF_weakest _ _ _ 42 [_, _, _, _, _, _] [] _
                rw [if_neg (fun q => q.2.elim h4 (fun z => by have := i_lt z; have := i_le h5; omega))] at ih2
                refine ab_go ok_SF_weakest 2 rfl ?_
                show ab_Z m_SF_weakest _ _ _ 11 [_, _, _, _, _, _] [] _
                exact ih2
              · intro h5
                show ab_Z m_SF_weakest _ _ _ 38 [_, _, _, _, _, _] [] _
                rw [if_pos ⟨h3, Or.inr (Int32.lt_iff_toInt_lt.mpr (i_nle h5))⟩] at ih2
                refine ab_go ok_SF_weakest 6 rfl ?_
                show ab_Z m_SF_weakest _ _ _ 11 [_, _, _, _, _, _] [] _
                exact ih2
        refine ab_br ok_SF_weakest rfl rfl ?_ ?_
        · intro h3
          show ab_Z m_SF_weakest _ _ _ 27 [_, _, _, _, _, _] [] _
          refine ab_go ok_SF_weakest 1 rfl ?_
          show ab_Z m_SF_weakest _ _ _ 28 [_, _, _, _, _, _] [_] _
          have := hx s1 hs
          rw [← hg, wktV, bB_0.mp h3] at this
          rw [← hg]
          exact this
        · intro h3
          show ab_Z m_SF_weakest _ _ _ 22 [_, _, _, _, _, _] [] _
          refine ab_go ok_SF_weakest 3 rfl ?_
          show ab_Z m_SF_weakest _ _ _ 25 [_, _, _, _, _, _] [_, _] _
          refine ab_cl ok_SF_weakest rfl [_, _] [] rfl ⟨_, _, rfl, rfl, Or.inl ⟨_, _, rfl, rfl⟩⟩ (Nat.le_of_ble_eq_true rfl) (t_Ha_treatyBinds d fm X s1 t hC1.2.2.2.2.2.2.2.2.1 hC1.2.2.2.2.2.2.2.2.2 hC1.2.2.1 h6 ht6 h5 (hC.2.kp hs) hk) ?_
          rintro _ _ ⟨rfl, s2, rfl, hk2⟩
          show ab_Z m_SF_weakest _ _ _ 26 [_, _, _, _, _, _] [_] _
          rw [hs 21 (2 * k) rfl (by decide), hs 21 (2 * k + 1) rfl (by decide), bdV_kp hs, bdV_kp hs]
          refine ab_go ok_SF_weakest 1 rfl ?_
          show ab_Z m_SF_weakest _ _ _ 28 [_, _, _, _, _, _] [_] _
          have := hx s2 (hs.tr hk2.to2)
          rw [← hg, wktV, bB_n0 h3] at this
          rw [← hg]
          exact this
end

