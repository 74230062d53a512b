/-! plan: what each clerk can seal -/
theorem lcmp_eq {a b : Int64} : lg_cmp a b = 0 ↔ a = b := by
  unfold lg_cmp
  constructor
  · intro h
    split at h
    · exact absurd h (by decide)
    · split at h
      · assumption
      · exact absurd h (by decide)
  · intro h
    subst h
    rw [if_neg (fun z => by have := Int64.lt_iff_toInt_lt.mp z; omega), if_pos rfl]
def fdvF (y : Int32) : Int32 := if 0 ≤ y ^^^ 46656 then y / 46656 else if y / 46656 * 46656 = y then y / 46656 else y / 46656 - 1
def bbF (x : Int32) : Int32 := -fdvF (-x)
def plN (s : Nat → Nat → Int32) (nd c a : Nat) : Int32 := nsV s nd c + bcF (nI a)
def plL (s : Nat → Nat → Int32) (PT : List (List Ins)) (nd c A : Nat) : Nat → Nat → Int32
  | 0, f => s 11 (3 * c + f)
  | e + 1, f => if A.testBit e = true then plL s PT nd c A e f - tkV s PT c e f (plL s PT nd c A e f) (plN s nd c (A % 2 ^ e)) else plL s PT nd c A e f
def enF (L T : Nat → Int32) : Nat → Bool
  | 0 => true
  | f + 1 => enF L T f && !decide (L f < T f)
def rsF (L T : Nat → Int32) : Nat → Int32
  | 0 => 0
  | f + 1 => rsF L T f + (L f - T f)
def plT (s : Nat → Nat → Int32) (PT : List (List Ins)) (nd c A e f : Nat) : Int32 := tkV s PT c e f (plL s PT nd c A e f) (plN s nd c (A % 2 ^ e))
def plO (s : Nat → Nat → Int32) (PT : List (List Ins)) (nd c A e : Nat) : Bool := enF (plL s PT nd c A e) (plT s PT nd c A e) 3 && decide (0 < rsF (plL s PT nd c A e) (plT s PT nd c A e) 3)
def plP (s : Nat → Nat → Int32) (PT : List (List Ins)) (nd c A e : Nat) : Int32 := sumV (plT s PT nd c A e) 3
def plK (s : Nat → Nat → Int32) (PT : List (List Ins)) (nd c op A : Nat) : Nat → Bool
  | 0 => true
  | e + 1 => plK s PT nd c op A e && (!A.testBit e || (op.testBit e && plO s PT nd c A e))
def plC (s : Nat → Nat → Int32) (PT : List (List Ins)) (nd c op A : Nat) : Bool := plK s PT nd c op A 6
def scF (s : Nat → Nat → Int32) (PB : List (List Ins)) (c A : Nat) (n : Int32) (pr : Nat → Int32) : Nat → Int32
  | 0 => 0
  | e + 1 => if A.testBit e = true then scF s PB c A n pr e + (bdF PB (s 16 c + s 11 39) (s 19 e) (s 11 39) n (nI c) (pr e) * 46656 - (nI c + 1) * ab_wgI e) else scF s PB c A n pr e
def plS (s : Nat → Nat → Int32) (PT PB : List (List Ins)) (nd c A : Nat) : Int32 := scF s PB c A (plN s nd c A) (plP s PT nd c A) 6
theorem tb_lo {e a i : Nat} (h : i < e) : (2 ^ e + a).testBit i = a.testBit i := Nat.testBit_two_pow_add_gt h a
theorem tb_at {e a : Nat} (h : a < 2 ^ e) : (2 ^ e + a).testBit e = true := by rw [Nat.testBit_two_pow_add_eq, Nat.testBit_lt_two_pow h]; rfl
theorem tb_hi {e A i : Nat} (h : A < 2 ^ e) (hi : e ≤ i) : A.testBit i = false := Nat.testBit_lt_two_pow (Nat.lt_of_lt_of_le h (Nat.pow_le_pow_right (by decide) hi))
theorem md_lo {e a i : Nat} (h : i ≤ e) : (2 ^ e + a) % 2 ^ i = a % 2 ^ i := by
  obtain ⟨k, rfl⟩ : ∃ k, e = i + k := ⟨e - i, by omega⟩
  rw [Nat.pow_add, Nat.add_comm, Nat.add_mul_mod_self_left]
theorem plL_lo (s : Nat → Nat → Int32) (PT : List (List Ins)) (nd c : Nat) {e a : Nat} : ∀ i f, i ≤ e → plL s PT nd c (2 ^ e + a) i f = plL s PT nd c a i f
  | 0, f, _ => rfl
  | i + 1, f, h => by rw [plL, plL, plL_lo s PT nd c i f (by omega), tb_lo (by omega), md_lo (by omega)]
theorem plL_hi (s : Nat → Nat → Int32) (PT : List (List Ins)) (nd c : Nat) {e A : Nat} (h : A < 2 ^ e) : ∀ k f, plL s PT nd c A (e + k) f = plL s PT nd c A e f
  | 0, f => rfl
  | k + 1, f => by rw [← Nat.add_assoc, plL, tb_hi h (by omega), if_neg (by decide), plL_hi s PT nd c h k f]
theorem plT_lo (s : Nat → Nat → Int32) (PT : List (List Ins)) (nd c : Nat) {e a i f : Nat} (h : i ≤ e) : plT s PT nd c (2 ^ e + a) i f = plT s PT nd c a i f := by
  unfold plT
  rw [plL_lo s PT nd c i f h, md_lo h]
theorem plO_lo (s : Nat → Nat → Int32) (PT : List (List Ins)) (nd c : Nat) {e a i : Nat} (h : i ≤ e) : plO s PT nd c (2 ^ e + a) i = plO s PT nd c a i := by
  unfold plO
  rw [show plT s PT nd c (2 ^ e + a) i = plT s PT nd c a i from funext fun f => plT_lo s PT nd c h, show plL s PT nd c (2 ^ e + a) i = plL s PT nd c a i from funext fun f => plL_lo s PT nd c i f h]
theorem plK_lo (s : Nat → Nat → Int32) (PT : List (List Ins)) (nd c op : Nat) {e a : Nat} : ∀ i, i ≤ e → plK s PT nd c op (2 ^ e + a) i = plK s PT nd c op a i
  | 0, _ => rfl
  | i + 1, h => by rw [plK, plK, plK_lo s PT nd c op i (by omega), tb_lo (by omega), plO_lo s PT nd c (by omega)]
theorem plK_hi (s : Nat → Nat → Int32) (PT : List (List Ins)) (nd c op : Nat) {e A : Nat} (h : A < 2 ^ e) : ∀ k, plK s PT nd c op A (e + k) = plK s PT nd c op A e
  | 0 => rfl
  | k + 1 => by rw [← Nat.add_assoc, plK, tb_hi h (by omega), plK_hi s PT nd c op h k]; simp
theorem plC_top (s : Nat → Nat → Int32) (PT : List (List Ins)) (nd c op : Nat) {e a : Nat} (he : e < 6) (h : a < 2 ^ e) : plC s PT nd c op (2 ^ e + a) = (plC s PT nd c op a && (op.testBit e && plO s PT nd c a e)) := by
  unfold plC
  obtain ⟨k, hk⟩ : ∃ k, 6 = (e + 1) + k := ⟨5 - e, by omega⟩
  have h1 : 2 ^ e + a < 2 ^ (e + 1) := by rw [Nat.pow_succ]; omega
  rw [show plK s PT nd c op (2 ^ e + a) 6 = plK s PT nd c op (2 ^ e + a) (e + 1) from by rw [hk]; exact plK_hi s PT nd c op h1 k, show plK s PT nd c op a 6 = plK s PT nd c op a e from by rw [show 6 = e + (k + 1) by omega]; exact plK_hi s PT nd c op h (k + 1), plK, plK_lo s PT nd c op e (Nat.le_refl _), tb_at h, plO_lo s PT nd c (Nat.le_refl _)]
  rfl
theorem plL_top (s : Nat → Nat → Int32) (PT : List (List Ins)) (nd c : Nat) {e a : Nat} (he : e < 6) (h : a < 2 ^ e) (f : Nat) : plL s PT nd c (2 ^ e + a) 6 f = plL s PT nd c a 6 f - plT s PT nd c a e f := by
  obtain ⟨k, hk⟩ : ∃ k, 6 = (e + 1) + k := ⟨5 - e, by omega⟩
  have h1 : 2 ^ e + a < 2 ^ (e + 1) := by rw [Nat.pow_succ]; omega
  rw [show plL s PT nd c (2 ^ e + a) 6 f = plL s PT nd c (2 ^ e + a) (e + 1) f from by rw [hk]; exact plL_hi s PT nd c h1 k f, show plL s PT nd c a 6 f = plL s PT nd c a e f from by rw [show 6 = e + (k + 1) by omega]; exact plL_hi s PT nd c h (k + 1) f, plL, tb_at h, if_pos rfl, plL_lo s PT nd c e f (Nat.le_refl _), md_lo (Nat.le_refl _)]
  rfl
section
variable (d : Nat) (fm : Value) (X : Nat × (Nat → Int32)) (s : Nat → Nat → Int32) (t : Nat → Nat → Int64)
variable {nc nd nt : Nat} {PT PG PB PF : List (List Ins)}
theorem t_Pl_hasSet (h : ab_H) (x : Int64) (i : Int32) : ab_T g_Pl_hasSet d (0, 0) [.long x, .int i] h (PI (bB (hsF x i)) h) := by
  refine ab_T_of (M := m_Pl_hasSet) rfl rfl (Nat.le_of_ble_eq_true rfl) ?_
  show ab_Z m_Pl_hasSet _ _ _ 0 [_, _, _] [] _
  refine ab_go ok_Pl_hasSet 7 rfl ?_
  show ab_Z m_Pl_hasSet _ _ _ 7 [_, _, _] [_] _
  refine ab_br ok_Pl_hasSet rfl rfl ?_ ?_
  · intro h1
    show ab_Z m_Pl_hasSet _ _ _ 8 [_, _, _] [] _
    refine ab_go ok_Pl_hasSet 2 rfl ?_
    show ab_Z m_Pl_hasSet _ _ _ 11 [_, _, _] [_] _
    exact ab_rZ ok_Pl_hasSet rfl (by decide) (⟨by rw [show hsF x i = true from decide_eq_true (lcmp_eq.mp h1)]; rfl, rfl⟩)
  · intro h1
    show ab_Z m_Pl_hasSet _ _ _ 10 [_, _, _] [] _
    refine ab_go ok_Pl_hasSet 1 rfl ?_
    show ab_Z m_Pl_hasSet _ _ _ 11 [_, _, _] [_] _
    exact ab_rZ ok_Pl_hasSet rfl (by decide) (⟨by rw [show hsF x i = false from decide_eq_false (fun z => h1 (lcmp_eq.mpr z))]; rfl, rfl⟩)
theorem t_SF_longAt_46 (i : Int32) (k : Nat) (hk : k < 5) (hi : i = nI k) : ab_T g_SF_longAt d (0, 0) [.ref 46, .int i] (HA fm X s t) (PL (t 46 k) (HA fm X s t)) := by
  subst hi
  refine ab_T_of (M := m_SF_longAt) rfl rfl (Nat.le_of_ble_eq_true rfl) ?_
  show ab_Z m_SF_longAt _ _ _ 0 [_, _] [] _
  refine ab_go ok_SF_longAt 1 rfl ?_
  show ab_Z m_SF_longAt _ _ _ 1 [_, _] [_] _
  refine ab_br ok_SF_longAt rfl rfl ?_ ?_
  · intro hc
    show ab_Z m_SF_longAt _ _ _ 10 [_, _] [] _
    exact absurd hc (nI_l0 (by omega))
  · intro hc
    show ab_Z m_SF_longAt _ _ _ 2 [_, _] [] _
    refine ab_go ok_SF_longAt 3 rfl ?_
    show ab_Z m_SF_longAt _ _ _ 5 [_, _] [_, _] _
    refine ab_br ok_SF_longAt rfl rfl ?_ ?_
    · intro hd
      show ab_Z m_SF_longAt _ _ _ 10 [_, _] [] _
      exact absurd hd (nI_ge hk (by decide))
    · intro hd
      show ab_Z m_SF_longAt _ _ _ 6 [_, _] [] _
      refine ab_go ok_SF_longAt 2 rfl ?_
      show ab_Z m_SF_longAt _ _ _ 8 [_, _] [_, _] _
      refine ab_ck ok_SF_longAt rfl rfl (by rw [nI_t (by omega)]; omega) ?_
      show ab_Z m_SF_longAt _ _ _ 9 [_, _] [_] _
      refine ab_go ok_SF_longAt 1 rfl ?_
      show ab_Z m_SF_longAt _ _ _ 11 [_, _] [_] _
      exact ab_rL ok_SF_longAt rfl (⟨by rw [nI_c (by omega)], rfl⟩)
theorem t_SF_longAt_51 (i : Int32) (k : Nat) (hk : k < 32) (hi : i = nI k) : ab_T g_SF_longAt d (0, 0) [.ref 51, .int i] (HA fm X s t) (PL (t 51 k) (HA fm X s t)) := by
  subst hi
  refine ab_T_of (M := m_SF_longAt) rfl rfl (Nat.le_of_ble_eq_true rfl) ?_
  show ab_Z m_SF_longAt _ _ _ 0 [_, _] [] _
  refine ab_go ok_SF_longAt 1 rfl ?_
  show ab_Z m_SF_longAt _ _ _ 1 [_, _] [_] _
  refine ab_br ok_SF_longAt rfl rfl ?_ ?_
  · intro hc
    show ab_Z m_SF_longAt _ _ _ 10 [_, _] [] _
    exact absurd hc (nI_l0 (by omega))
  · intro hc
    show ab_Z m_SF_longAt _ _ _ 2 [_, _] [] _
    refine ab_go ok_SF_longAt 3 rfl ?_
    show ab_Z m_SF_longAt _ _ _ 5 [_, _] [_, _] _
    refine ab_br ok_SF_longAt rfl rfl ?_ ?_
    · intro hd
      show ab_Z m_SF_longAt _ _ _ 10 [_, _] [] _
      exact absurd hd (nI_ge hk (by decide))
    · intro hd
      show ab_Z m_SF_longAt _ _ _ 6 [_, _] [] _
      refine ab_go ok_SF_longAt 2 rfl ?_
      show ab_Z m_SF_longAt _ _ _ 8 [_, _] [_, _] _
      refine ab_ck ok_SF_longAt rfl rfl (by rw [nI_t (by omega)]; omega) ?_
      show ab_Z m_SF_longAt _ _ _ 9 [_, _] [_] _
      refine ab_go ok_SF_longAt 1 rfl ?_
      show ab_Z m_SF_longAt _ _ _ 11 [_, _] [_] _
      exact ab_rL ok_SF_longAt rfl (⟨by rw [nI_c (by omega)], rfl⟩)
theorem t_SF_putLong_46 (i : Int32) (k : Nat) (v : Int64) (hk : k < 5) (hi : i = nI k) : ab_T g_SF_putLong d (0, 0) [.ref 46, .int i, .long v] (HA fm X s t) (PV (HA fm X s (ab_up t 46 k v))) := by
  subst hi
  refine ab_T_of (M := m_SF_putLong) rfl rfl (Nat.le_of_ble_eq_true rfl) ?_
  show ab_Z m_SF_putLong _ _ _ 0 [_, _, _, _] [] _
  refine ab_go ok_SF_putLong 1 rfl ?_
  show ab_Z m_SF_putLong _ _ _ 1 [_, _, _, _] [_] _
  refine ab_br ok_SF_putLong rfl rfl ?_ ?_
  · intro hc
    show ab_Z m_SF_putLong _ _ _ 10 [_, _, _, _] [] _
    exact absurd hc (nI_l0 (by omega))
  · intro hc
    show ab_Z m_SF_putLong _ _ _ 2 [_, _, _, _] [] _
    refine ab_go ok_SF_putLong 3 rfl ?_
    show ab_Z m_SF_putLong _ _ _ 5 [_, _, _, _] [_, _] _
    refine ab_br ok_SF_putLong rfl rfl ?_ ?_
    · intro hd
      show ab_Z m_SF_putLong _ _ _ 10 [_, _, _, _] [] _
      exact absurd hd (nI_ge hk (by decide))
    · intro hd
      show ab_Z m_SF_putLong _ _ _ 6 [_, _, _, _] [] _
      refine ab_go ok_SF_putLong 3 rfl ?_
      show ab_Z m_SF_putLong _ _ _ 9 [_, _, _, _] [_, _, _] _
      refine ab_ck ok_SF_putLong rfl rfl (by rw [nI_t (by omega)]; omega) ?_
      show ab_Z m_SF_putLong _ _ _ 10 [_, _, _, _] [] _
      rw [nI_c (by omega)]
      exact ab_rV ok_SF_putLong rfl (⟨rfl, rfl⟩)
theorem t_SF_putLong_51 (i : Int32) (k : Nat) (v : Int64) (hk : k < 32) (hi : i = nI k) : ab_T g_SF_putLong d (0, 0) [.ref 51, .int i, .long v] (HA fm X s t) (PV (HA fm X s (ab_up t 51 k v))) := by
  subst hi
  refine ab_T_of (M := m_SF_putLong) rfl rfl (Nat.le_of_ble_eq_true rfl) ?_
  show ab_Z m_SF_putLong _ _ _ 0 [_, _, _, _] [] _
  refine ab_go ok_SF_putLong 1 rfl ?_
  show ab_Z m_SF_putLong _ _ _ 1 [_, _, _, _] [_] _
  refine ab_br ok_SF_putLong rfl rfl ?_ ?_
  · intro hc
    show ab_Z m_SF_putLong _ _ _ 10 [_, _, _, _] [] _
    exact absurd hc (nI_l0 (by omega))
  · intro hc
    show ab_Z m_SF_putLong _ _ _ 2 [_, _, _, _] [] _
    refine ab_go ok_SF_putLong 3 rfl ?_
    show ab_Z m_SF_putLong _ _ _ 5 [_, _, _, _] [_, _] _
    refine ab_br ok_SF_putLong rfl rfl ?_ ?_
    · intro hd
      show ab_Z m_SF_putLong _ _ _ 10 [_, _, _, _] [] _
      exact absurd hd (nI_ge hk (by decide))
    · intro hd
      show ab_Z m_SF_putLong _ _ _ 6 [_, _, _, _] [] _
      refine ab_go ok_SF_putLong 3 rfl ?_
      show ab_Z m_SF_putLong _ _ _ 9 [_, _, _, _] [_, _, _] _
      refine ab_ck ok_SF_putLong rfl rfl (by rw [nI_t (by omega)]; omega) ?_
      show ab_Z m_SF_putLong _ _ _ 10 [_, _, _, _] [] _
      rw [nI_c (by omega)]
      exact ab_rV ok_SF_putLong rfl (⟨rfl, rfl⟩)
theorem t_SF_putLong_6 (i : Int32) (k : Nat) (v : Int64) (hk : k < 401) (hi : i = nI k) : ab_T g_SF_putLong d (0, 0) [.ref 6, .int i, .long v] (HA fm X s t) (PV (HA fm X s (ab_up t 6 k v))) := by
  subst hi
  refine ab_T_of (M := m_SF_putLong) rfl rfl (Nat.le_of_ble_eq_true rfl) ?_
  show ab_Z m_SF_putLong _ _ _ 0 [_, _, _, _] [] _
  refine ab_go ok_SF_putLong 1 rfl ?_
  show ab_Z m_SF_putLong _ _ _ 1 [_, _, _, _] [_] _
  refine ab_br ok_SF_putLong rfl rfl ?_ ?_
  · intro hc
    show ab_Z m_SF_putLong _ _ _ 10 [_, _, _, _] [] _
    exact absurd hc (nI_l0 (by omega))
  · intro hc
    show ab_Z m_SF_putLong _ _ _ 2 [_, _, _, _] [] _
    refine ab_go ok_SF_putLong 3 rfl ?_
    show ab_Z m_SF_putLong _ _ _ 5 [_, _, _, _] [_, _] _
    refine ab_br ok_SF_putLong rfl rfl ?_ ?_
    · intro hd
      show ab_Z m_SF_putLong _ _ _ 10 [_, _, _, _] [] _
      exact absurd hd (nI_ge hk (by decide))
    · intro hd
      show ab_Z m_SF_putLong _ _ _ 6 [_, _, _, _] [] _
      refine ab_go ok_SF_putLong 3 rfl ?_
      show ab_Z m_SF_putLong _ _ _ 9 [_, _, _, _] [_, _, _] _
      refine ab_ck ok_SF_putLong rfl rfl (by rw [nI_t (by omega)]; omega) ?_
      show ab_Z m_SF_putLong _ _ _ 10 [_, _, _, _] [] _
      rw [nI_c (by omega)]
      exact ab_rV ok_SF_putLong rfl (⟨rfl, rfl⟩)
theorem t_SF_putLong_58 (i : Int32) (k : Nat) (v : Int64) (hk : k < 5) (hi : i = nI k) : ab_T g_SF_putLong d (0, 0) [.ref 58, .int i, .long v] (HA fm X s t) (PV (HA fm X s (ab_up t 58 k v))) := by
  subst hi
  refine ab_T_of (M := m_SF_putLong) rfl rfl (Nat.le_of_ble_eq_true rfl) ?_
  show ab_Z m_SF_putLong _ _ _ 0 [_, _, _, _] [] _
  refine ab_go ok_SF_putLong 1 rfl ?_
  show ab_Z m_SF_putLong _ _ _ 1 [_, _, _, _] [_] _
  refine ab_br ok_SF_putLong rfl rfl ?_ ?_
  · intro hc
    show ab_Z m_SF_putLong _ _ _ 10 [_, _, _, _] [] _
    exact absurd hc (nI_l0 (by omega))
  · intro hc
    show ab_Z m_SF_putLong _ _ _ 2 [_, _, _, _] [] _
    refine ab_go ok_SF_putLong 3 rfl ?_
    show ab_Z m_SF_putLong _ _ _ 5 [_, _, _, _] [_, _] _
    refine ab_br ok_SF_putLong rfl rfl ?_ ?_
    · intro hd
      show ab_Z m_SF_putLong _ _ _ 10 [_, _, _, _] [] _
      exact absurd hd (nI_ge hk (by decide))
    · intro hd
      show ab_Z m_SF_putLong _ _ _ 6 [_, _, _, _] [] _
      refine ab_go ok_SF_putLong 3 rfl ?_
      show ab_Z m_SF_putLong _ _ _ 9 [_, _, _, _] [_, _, _] _
      refine ab_ck ok_SF_putLong rfl rfl (by rw [nI_t (by omega)]; omega) ?_
      show ab_Z m_SF_putLong _ _ _ 10 [_, _, _, _] [] _
      rw [nI_c (by omega)]
      exact ab_rV ok_SF_putLong rfl (⟨rfl, rfl⟩)
theorem t_SF_putLong_61 (i : Int32) (k : Nat) (v : Int64) (hk : k < 6) (hi : i = nI k) : ab_T g_SF_putLong d (0, 0) [.ref 61, .int i, .long v] (HA fm X s t) (PV (HA fm X s (ab_up t 61 k v))) := by
  subst hi
  refine ab_T_of (M := m_SF_putLong) rfl rfl (Nat.le_of_ble_eq_true rfl) ?_
  show ab_Z m_SF_putLong _ _ _ 0 [_, _, _, _] [] _
  refine ab_go ok_SF_putLong 1 rfl ?_
  show ab_Z m_SF_putLong _ _ _ 1 [_, _, _, _] [_] _
  refine ab_br ok_SF_putLong rfl rfl ?_ ?_
  · intro hc
    show ab_Z m_SF_putLong _ _ _ 10 [_, _, _, _] [] _
    exact absurd hc (nI_l0 (by omega))
  · intro hc
    show ab_Z m_SF_putLong _ _ _ 2 [_, _, _, _] [] _
    refine ab_go ok_SF_putLong 3 rfl ?_
    show ab_Z m_SF_putLong _ _ _ 5 [_, _, _, _] [_, _] _
    refine ab_br ok_SF_putLong rfl rfl ?_ ?_
    · intro hd
      show ab_Z m_SF_putLong _ _ _ 10 [_, _, _, _] [] _
      exact absurd hd (nI_ge hk (by decide))
    · intro hd
      show ab_Z m_SF_putLong _ _ _ 6 [_, _, _, _] [] _
      refine ab_go ok_SF_putLong 3 rfl ?_
      show ab_Z m_SF_putLong _ _ _ 9 [_, _, _, _] [_, _, _] _
      refine ab_ck ok_SF_putLong rfl rfl (by rw [nI_t (by omega)]; omega) ?_
      show ab_Z m_SF_putLong _ _ _ 10 [_, _, _, _] [] _
      rw [nI_c (by omega)]
      exact ab_rV ok_SF_putLong rfl (⟨rfl, rfl⟩)
theorem t_JM_floorDiv (h : ab_H) (y : Int32) : ab_T g_JM_floorDiv d (0, 0) [.int y, .int 46656] h (PI (fdvF y) h) := by
  refine ab_T_ofF (M := m_JM_floorDiv) (by decide +kernel) rfl (Nat.le_of_ble_eq_true rfl) ?_
  show ab_Z m_JM_floorDiv _ _ _ 0 [_, _, _] [] _
  refine ab_go ok_JM_floorDiv 2 rfl ?_
  show ab_Z m_JM_floorDiv _ _ _ 2 [_, _, _] [_, _] _
  refine ab_go ok_JM_floorDiv 1 rfl ?_
  show ab_Z m_JM_floorDiv _ _ _ 3 [_, _, _] [_] _
  refine ab_go ok_JM_floorDiv 4 rfl ?_
  show ab_Z m_JM_floorDiv _ _ _ 7 [_, _, _] [_] _
  refine ab_br ok_JM_floorDiv rfl rfl ?_ ?_
  · intro h1
    show ab_Z m_JM_floorDiv _ _ _ 17 [_, _, _] [] _
    refine ab_go ok_JM_floorDiv 1 rfl ?_
    show ab_Z m_JM_floorDiv _ _ _ 18 [_, _, _] [_] _
    exact ab_rI ok_JM_floorDiv rfl (⟨by rw [fdvF, if_pos h1], rfl⟩)
  · intro h1
    show ab_Z m_JM_floorDiv _ _ _ 8 [_, _, _] [] _
    refine ab_go ok_JM_floorDiv 4 rfl ?_
    show ab_Z m_JM_floorDiv _ _ _ 12 [_, _, _] [_, _] _
    refine ab_br ok_JM_floorDiv rfl rfl ?_ ?_
    · intro h2
      show ab_Z m_JM_floorDiv _ _ _ 17 [_, _, _] [] _
      refine ab_go ok_JM_floorDiv 1 rfl ?_
      show ab_Z m_JM_floorDiv _ _ _ 18 [_, _, _] [_] _
      exact ab_rI ok_JM_floorDiv rfl (⟨by rw [fdvF, if_neg h1, if_pos h2], rfl⟩)
    · intro h2
      show ab_Z m_JM_floorDiv _ _ _ 13 [_, _, _] [] _
      refine ab_go ok_JM_floorDiv 3 rfl ?_
      show ab_Z m_JM_floorDiv _ _ _ 16 [_, _, _] [_] _
      exact ab_rI ok_JM_floorDiv rfl (⟨by rw [fdvF, if_neg h1, if_neg h2], rfl⟩)
theorem t_Pl_boundBy (h : ab_H) (x : Int32) : ab_T g_Pl_boundBy (d + 1) (0, 0) [.int x] h (PI (bbF x) h) := by
  refine ab_T_of (M := m_Pl_boundBy) rfl rfl (Nat.le_of_ble_eq_true rfl) ?_
  show ab_Z m_Pl_boundBy _ _ _ 0 [_] [] _
  refine ab_go ok_Pl_boundBy 3 rfl ?_
  show ab_Z m_Pl_boundBy _ _ _ 3 [_] [_, _] _
  refine ab_cl ok_Pl_boundBy rfl [_, _] [] rfl rfl (Nat.le_of_ble_eq_true rfl) (t_JM_floorDiv d h (-x)) ?_
  rintro _ _ ⟨rfl, rfl⟩
  show ab_Z m_Pl_boundBy _ _ _ 4 [_] [_] _
  refine ab_go ok_Pl_boundBy 1 rfl ?_
  show ab_Z m_Pl_boundBy _ _ _ 5 [_] [_] _
  exact ab_rI ok_Pl_boundBy rfl (⟨rfl, rfl⟩)
/-- all but scratch and the rows p, q -/
def KpQ (p q : Nat) (s s' : Nat → Nat → Int32) : Prop := ∀ c k, scr1 c k = false → c ≠ p → c ≠ q → s' c k = s c k
theorem KpQ.up1 {p q : Nat} {a b : Nat → Nat → Int32} {k : Nat} {v : Int32} (h : KpQ p q a b) : KpQ p q a (ab_up b p k v) := fun x j h1 h2 h3 => by
  rw [ab_up_o h2]; exact h x j h1 h2 h3
theorem KpQ.up2 {p q : Nat} {a b : Nat → Nat → Int32} {k : Nat} {v : Int32} (h : KpQ p q a b) : KpQ p q a (ab_up b q k v) := fun x j h1 h2 h3 => by
  rw [ab_up_o h3]; exact h x j h1 h2 h3
theorem KpQ.k1 {p q : Nat} {a b c : Nat → Nat → Int32} (h : KpQ p q a b) (g : Kp1 b c) : KpQ p q a c := fun x j h1 h2 h3 => (g x j h1).trans (h x j h1 h2 h3)
theorem KpQ.rf (p q : Nat) (s : Nat → Nat → Int32) : KpQ p q s s := fun _ _ _ _ _ => rfl
theorem KpQ.toH {a b : Nat → Nat → Int32} (h : KpQ 48 49 a b) : KpH a b := fun x k h1 h2 h3 => h x k h1 (by omega) (by omega)
theorem ix3 (e u : Nat) : nI e * 3 + nI u = nI (3 * e + u) := by rw [L3, pk_mul, nI_add, Nat.mul_comm]
theorem ix64 (e u : Nat) : nI e * 64 + nI u = nI (64 * e + u) := by rw [L64, pk_mul, nI_add, Nat.mul_comm]
theorem t_Pl_canSealLast (hC : CI s nc nd nt PT PG PB PF) {c a e : Nat} (hc : c < nc) (he : e < 6) (ha : a < 2 ^ e) (n : Int32) (L : Nat → Int32) (hl : ∀ f, f < 3 → s 48 (3 * a + f) = L f) : ab_T g_Pl_canSealLast (d + 4) (0, 0) [.ref 45, .int (nI c), .int (nI a), .int (nI e), .int n] (HA fm X s t) (fun v h => v = some (.int (bB (enF L (fun f => tkV s PT c e f (L f) n) 3 && decide (0 < rsF L (fun f => tkV s PT c e f (L f) n) 3)))) ∧ ∃ s', h = HA fm X s' t ∧ KpQ 48 49 s s' ∧ (∀ f, f < 3 → s' 48 (3 * (2 ^ e + a) + f) = L f - tkV s PT c e f (L f) n) ∧ (∀ j, ¬ (3 * (2 ^ e + a) ≤ j ∧ j < 3 * (2 ^ e + a) + 3) → s' 48 j = s 48 j) ∧ s' 49 (2 ^ e + a) = sumV (fun f => tkV s PT c e f (L f) n) 3 ∧ ∀ j, j ≠ 2 ^ e + a → s' 49 j = s 49 j) := by
  have h5 : nc ≤ 5 := hC.1.2.1
  have h64 : 2 ^ e + a < 64 := by
    have h1 : 2 ^ (e + 1) ≤ 2 ^ 6 := Nat.pow_le_pow_right (by decide) he
    rw [Nat.pow_succ] at h1
    omega
  refine ab_T_of (M := m_Pl_canSealLast) rfl rfl (Nat.le_of_ble_eq_true rfl) ?_
  show ab_Z m_Pl_canSealLast _ _ _ 0 [_, _, _, _, _, _, _, _, _, _, _, _] [] _
  refine ab_go ok_Pl_canSealLast 14 rfl ?_
  show ab_Z m_Pl_canSealLast _ _ _ 14 [_, _, _, _, _, _, _, _, _, _, _, _] [] _
  rw [nI_shl e (by omega), nI_or, or_top ha]
  generalize hT : (fun f => tkV s PT c e f (L f) n) = T
  have hTf : ∀ f, tkV s PT c e f (L f) n = T f := fun f => by rw [← hT]
  generalize hA : 2 ^ e + a = A at h64
  have haA : 3 * a + 3 ≤ 3 * A := by
    have : 0 < 2 ^ e := Nat.two_pow_pos e
    omega
  generalize hPo : (fun v h => v = some (.int (bB (enF L T 3 && decide (0 < rsF L T 3)))) ∧ ∃ s', h = HA fm X s' t ∧ KpQ 48 49 s s' ∧ (∀ f, f < 3 → s' 48 (3 * A + f) = L f - tkV s PT c e f (L f) n) ∧ (∀ j, ¬ (3 * A ≤ j ∧ j < 3 * A + 3) → s' 48 j = s 48 j) ∧ s' 49 A = sumV T 3 ∧ ∀ j, j ≠ A → s' 49 j = s 49 j : Option Value → ab_H → Prop) = Po
  refine lp_dn 3 (fun f => ∀ s1, KpQ 48 49 s s1 → (∀ g, g < f → s1 48 (3 * A + g) = L g - T g) → (∀ j, ¬ (3 * A ≤ j ∧ j < 3 * A + 3) → s1 48 j = s 48 j) → s1 49 = s 49 → ab_Z m_Pl_canSealLast (d + 4) (0, 0) Po 14 [some (.ref 45), some (.int (nI c)), some (.int (nI a)), some (.int (nI e)), some (.int n), some (.int (nI A)), some (.int (bB (enF L T f))), some (.int (sumV T f)), some (.int (rsF L T f)), some (.int (nI f)), none, none] [] (HA fm X s1 t)) ?_ ?_ s (KpQ.rf 48 49 s) (fun g hg => absurd hg (by omega)) (fun _ _ => rfl) rfl
  · intro s1 hk q1 q2 q3
    generalize enF L T 3 = B at hPo ⊢
    generalize rsF L T 3 = R at hPo ⊢
    generalize sumV T 3 = U at hPo ⊢
    refine ab_go ok_Pl_canSealLast 2 rfl ?_
    show ab_Z m_Pl_canSealLast _ _ _ 16 [_, _, _, _, _, _, _, _, _, _, _, _] [_, _] _
    refine ab_go ok_Pl_canSealLast 1 rfl ?_
    show ab_Z m_Pl_canSealLast _ _ _ 67 [_, _, _, _, _, _, _, _, _, _, _, _] [] _
    refine ab_go ok_Pl_canSealLast 4 rfl ?_
    show ab_Z m_Pl_canSealLast _ _ _ 71 [_, _, _, _, _, _, _, _, _, _, _, _] [_, _, _] _
    refine ab_cl ok_Pl_canSealLast rfl [_, _, _] [] rfl rfl (Nat.le_of_ble_eq_true rfl) (t_SF_put_49 (d + 3) fm X s1 t _ A _ h64 rfl) ?_
    rintro _ _ ⟨rfl, rfl⟩
    show ab_Z m_Pl_canSealLast _ _ _ 72 [_, _, _, _, _, _, _, _, _, _, _, _] [] _
    refine ab_go ok_Pl_canSealLast 1 rfl ?_
    show ab_Z m_Pl_canSealLast _ _ _ 73 [_, _, _, _, _, _, _, _, _, _, _, _] [_] _
    have fin : ∀ v, v = some (.int (bB (B && decide (0 < R)))) → Po v (HA fm X (ab_up s1 49 A U) t) := by
      intro v hv
      rw [← hPo]
      exact ⟨hv, _, rfl, hk.up2, fun f hf => by rw [ab_up_o (by decide), hTf]; exact q1 f hf, fun j hj => by rw [ab_up_o (by decide)]; exact q2 j hj, ab_up_s .., fun j hj => by rw [ab_up_n hj, q3]⟩
    refine ab_br ok_Pl_canSealLast rfl rfl ?_ ?_
    · intro h1
      show ab_Z m_Pl_canSealLast _ _ _ 78 [_, _, _, _, _, _, _, _, _, _, _, _] [] _
      refine ab_go ok_Pl_canSealLast 1 rfl ?_
      show ab_Z m_Pl_canSealLast _ _ _ 79 [_, _, _, _, _, _, _, _, _, _, _, _] [_] _
      exact ab_rZ ok_Pl_canSealLast rfl (by decide) (fin _ (by rw [bB_0.mp h1]; rfl))
    · intro h1
      show ab_Z m_Pl_canSealLast _ _ _ 74 [_, _, _, _, _, _, _, _, _, _, _, _] [] _
      refine ab_go ok_Pl_canSealLast 1 rfl ?_
      show ab_Z m_Pl_canSealLast _ _ _ 75 [_, _, _, _, _, _, _, _, _, _, _, _] [_] _
      refine ab_br ok_Pl_canSealLast rfl rfl ?_ ?_
      · intro h2
        show ab_Z m_Pl_canSealLast _ _ _ 78 [_, _, _, _, _, _, _, _, _, _, _, _] [] _
        refine ab_go ok_Pl_canSealLast 1 rfl ?_
        show ab_Z m_Pl_canSealLast _ _ _ 79 [_, _, _, _, _, _, _, _, _, _, _, _] [_] _
        exact ab_rZ ok_Pl_canSealLast rfl (by decide) (fin _ (by rw [decide_eq_false (fun z => by have := i_leR (z := 0) rfl h2; have := i_ltK (z := 0) rfl z; omega), Bool.and_false]; rfl))
      · intro h2
        show ab_Z m_Pl_canSealLast _ _ _ 76 [_, _, _, _, _, _, _, _, _, _, _, _] [] _
        refine ab_go ok_Pl_canSealLast 2 rfl ?_
        show ab_Z m_Pl_canSealLast _ _ _ 79 [_, _, _, _, _, _, _, _, _, _, _, _] [_] _
        exact ab_rZ ok_Pl_canSealLast rfl (by decide) (fin _ (by rw [bB_n0 h1, decide_eq_true (show (0 : Int32) < R from Int32.lt_iff_toInt_lt.mpr (i_nleR (z := 0) rfl h2))]; rfl))
  · intro f hf ih s1 hk q1 q2 q3
    rw [enF, sumV, rsF, nI_succ] at ih
    refine ab_go ok_Pl_canSealLast 2 rfl ?_
    show ab_Z m_Pl_canSealLast _ _ _ 16 [_, _, _, _, _, _, _, _, _, _, _, _] [_, _] _
    refine ab_br ok_Pl_canSealLast rfl rfl ?_ ?_
    · intro h1
      show ab_Z m_Pl_canSealLast _ _ _ 67 [_, _, _, _, _, _, _, _, _, _, _, _] [] _
      exact absurd h1 (lp_in (N := 3) (by decide) hf)
    · intro h1
      show ab_Z m_Pl_canSealLast _ _ _ 17 [_, _, _, _, _, _, _, _, _, _, _, _] [] _
      refine ab_go ok_Pl_canSealLast 7 rfl ?_
      show ab_Z m_Pl_canSealLast _ _ _ 24 [_, _, _, _, _, _, _, _, _, _, _, _] [_, _] _
      refine ab_cl ok_Pl_canSealLast rfl [_, _] [] rfl rfl (Nat.le_of_ble_eq_true rfl) (t_SF_at_48 (d + 3) fm X s1 t _ (3 * a + f) (by omega) (ix3 a f)) ?_
      rintro _ _ ⟨rfl, rfl⟩
      show ab_Z m_Pl_canSealLast _ _ _ 25 [_, _, _, _, _, _, _, _, _, _, _, _] [_] _
      rw [q2 (3 * a + f) (by omega), hl f hf]
      refine ab_go ok_Pl_canSealLast 8 rfl ?_
      show ab_Z m_Pl_canSealLast _ _ _ 33 [_, _, _, _, _, _, _, _, _, _, _, _] [_, _, _, _, _, _] _
      have hC1 := CI_h hk.toH hC
      refine ab_cl ok_Pl_canSealLast rfl [_, _, _, _, _, _] [] rfl ⟨_, _, rfl, rfl, Or.inl ⟨_, _, rfl, rfl⟩⟩ (Nat.le_of_ble_eq_true rfl) (t_Ha_takesOf d fm X s1 t hC1.1.2.2.2.2.2.2.1 (show c < 5 by omega) he hf (L f) n) ?_
      rintro _ _ ⟨rfl, s2, rfl, hk2⟩
      show ab_Z m_Pl_canSealLast _ _ _ 34 [_, _, _, _, _, _, _, _, _, _, _, _] [_] _
      rw [show tkF PT (s1 20 (3 * e + f)) (L f) (s1 16 c + s1 11 39) (s1 19 e) (nI f) (s1 11 39) n (nI c) = tkV s1 PT c e f (L f) n from rfl, tkV_h hk.toH, hTf f]
      refine ab_go ok_Pl_canSealLast 11 rfl ?_
      show ab_Z m_Pl_canSealLast _ _ _ 45 [_, _, _, _, _, _, _, _, _, _, _, _] [_, _, _] _
      refine ab_cl ok_Pl_canSealLast rfl [_, _, _] [] rfl rfl (Nat.le_of_ble_eq_true rfl) (t_SF_put_48 (d + 3) fm X s2 t _ (3 * A + f) _ (by omega) (ix3 A f)) ?_
      rintro _ _ ⟨rfl, rfl⟩
      show ab_Z m_Pl_canSealLast _ _ _ 46 [_, _, _, _, _, _, _, _, _, _, _, _] [] _
      refine ab_go ok_Pl_canSealLast 1 rfl ?_
      show ab_Z m_Pl_canSealLast _ _ _ 47 [_, _, _, _, _, _, _, _, _, _, _, _] [_] _
      have ih2 := ih _ ((hk.k1 hk2).up1 (k := 3 * A + f) (v := L f - T f)) (fun g hg => by
        by_cases hgf : g = f
        · subst hgf; rw [ab_up_s]
        · rw [ab_up_n (by omega), hk2 48 _ rfl]; exact q1 g (by omega)) (fun j hj => by rw [ab_up_n (by omega), hk2 48 _ rfl]; exact q2 j hj) (by rw [ab_up_o (by decide)]; exact (funext fun j => hk2 49 j rfl).trans q3)
      refine ab_br ok_Pl_canSealLast rfl rfl ?_ ?_
      · intro h2
        show ab_Z m_Pl_canSealLast _ _ _ 53 [_, _, _, _, _, _, _, _, _, _, _, _] [] _
        rw [bB_0.mp h2] at ih2
        refine ab_go ok_Pl_canSealLast 14 rfl ?_
        show ab_Z m_Pl_canSealLast _ _ _ 14 [_, _, _, _, _, _, _, _, _, _, _, _] [] _
        exact ih2
      · intro h2
        show ab_Z m_Pl_canSealLast _ _ _ 48 [_, _, _, _, _, _, _, _, _, _, _, _] [] _
        rw [bB_n0 h2, Bool.true_and] at ih2
        refine ab_go ok_Pl_canSealLast 2 rfl ?_
        show ab_Z m_Pl_canSealLast _ _ _ 50 [_, _, _, _, _, _, _, _, _, _, _, _] [_, _] _
        refine ab_br ok_Pl_canSealLast rfl rfl ?_ ?_
        · intro h3
          show ab_Z m_Pl_canSealLast _ _ _ 53 [_, _, _, _, _, _, _, _, _, _, _, _] [] _
          rw [decide_eq_true h3] at ih2
          refine ab_go ok_Pl_canSealLast 14 rfl ?_
          show ab_Z m_Pl_canSealLast _ _ _ 14 [_, _, _, _, _, _, _, _, _, _, _, _] [] _
          exact ih2
        · intro h3
          show ab_Z m_Pl_canSealLast _ _ _ 51 [_, _, _, _, _, _, _, _, _, _, _, _] [] _
          rw [decide_eq_false h3] at ih2
          refine ab_go ok_Pl_canSealLast 15 rfl ?_
          show ab_Z m_Pl_canSealLast _ _ _ 14 [_, _, _, _, _, _, _, _, _, _, _, _] [] _
          exact ih2
theorem t_Pl_scoreOf (hC : CI s nc nd nt PT PG PB PF) {c A : Nat} (hc : c < nc) (hA : A < 64) (n : Int32) (pr : Nat → Int32) (hp : ∀ e, e < 6 → A.testBit e = true → s 49 (A % 2 ^ (e + 1)) = pr e) : ab_T g_Pl_scoreOf (d + 4) (0, 0) [.ref 45, .int (nI c), .int (nI A), .int n] (HA fm X s t) (PK (scF s PB c A n pr 6) fm X s t) := by
  have h5 : nc ≤ 5 := hC.1.2.1
  refine ab_T_of (M := m_Pl_scoreOf) rfl rfl (Nat.le_of_ble_eq_true rfl) ?_
  show ab_Z m_Pl_scoreOf _ _ _ 0 [_, _, _, _, _, _, _, _] [] _
  refine ab_go ok_Pl_scoreOf 4 rfl ?_
  show ab_Z m_Pl_scoreOf _ _ _ 4 [_, _, _, _, _, _, _, _] [] _
  generalize hV : scF s PB c A n pr 6 = V
  refine lp_dn 6 (fun e => ∀ s1, Kp1 s s1 → ab_Z m_Pl_scoreOf (d + 4) (0, 0) (PK V fm X s t) 4 [some (.ref 45), some (.int (nI c)), some (.int (nI A)), some (.int n), some (.int (scF s PB c A n pr e)), some (.int (nI e)), none, none] [] (HA fm X s1 t)) ?_ ?_ s (Kp1.rf s)
  · intro s1 hk
    rw [hV]
    refine ab_go ok_Pl_scoreOf 2 rfl ?_
    show ab_Z m_Pl_scoreOf _ _ _ 6 [_, _, _, _, _, _, _, _] [_, _] _
    refine ab_go ok_Pl_scoreOf 1 rfl ?_
    show ab_Z m_Pl_scoreOf _ _ _ 50 [_, _, _, _, _, _, _, _] [] _
    refine ab_go ok_Pl_scoreOf 1 rfl ?_
    show ab_Z m_Pl_scoreOf _ _ _ 51 [_, _, _, _, _, _, _, _] [_] _
    exact ab_rI ok_Pl_scoreOf rfl (⟨rfl, s1, rfl, hk⟩)
  · intro e he ih s1 hk
    rw [scF, nI_succ] at ih
    refine ab_go ok_Pl_scoreOf 2 rfl ?_
    show ab_Z m_Pl_scoreOf _ _ _ 6 [_, _, _, _, _, _, _, _] [_, _] _
    refine ab_br ok_Pl_scoreOf rfl rfl ?_ ?_
    · intro h1
      show ab_Z m_Pl_scoreOf _ _ _ 50 [_, _, _, _, _, _, _, _] [] _
      exact absurd h1 (lp_in (N := 6) (by decide) he)
    · intro h1
      show ab_Z m_Pl_scoreOf _ _ _ 7 [_, _, _, _, _, _, _, _] [] _
      refine ab_go ok_Pl_scoreOf 2 rfl ?_
      show ab_Z m_Pl_scoreOf _ _ _ 9 [_, _, _, _, _, _, _, _] [_, _] _
      refine ab_cl ok_Pl_scoreOf rfl [_, _] [] rfl rfl (Nat.le_of_ble_eq_true rfl) (t_SF_hasBit (d + 3) _ _ (nI e)) ?_
      rintro _ _ ⟨rfl, rfl⟩
      show ab_Z m_Pl_scoreOf _ _ _ 10 [_, _, _, _, _, _, _, _] [_] _
      rw [hbF_nI A (by omega)]
      refine ab_br ok_Pl_scoreOf rfl rfl ?_ ?_
      · intro h2
        show ab_Z m_Pl_scoreOf _ _ _ 48 [_, _, _, _, _, _, _, _] [] _
        have ih2 := ih s1 hk
        rw [if_neg (by rw [bB_0.mp h2]; decide)] at ih2
        refine ab_go ok_Pl_scoreOf 2 rfl ?_
        show ab_Z m_Pl_scoreOf _ _ _ 4 [_, _, _, _, _, _, _, _] [] _
        exact ih2
      · intro h2
        show ab_Z m_Pl_scoreOf _ _ _ 11 [_, _, _, _, _, _, _, _] [] _
        refine ab_go ok_Pl_scoreOf 9 rfl ?_
        show ab_Z m_Pl_scoreOf _ _ _ 20 [_, _, _, _, _, _, _, _] [_, _] _
        rw [and_msk A he]
        refine ab_cl ok_Pl_scoreOf rfl [_, _] [] rfl rfl (Nat.le_of_ble_eq_true rfl) (t_SF_at_49 (d + 3) fm X s1 t _ (A % 2 ^ (e + 1)) (Nat.lt_of_le_of_lt (Nat.mod_le _ _) hA) rfl) ?_
        rintro _ _ ⟨rfl, rfl⟩
        show ab_Z m_Pl_scoreOf _ _ _ 21 [_, _, _, _, _, _, _, _] [_] _
        rw [hk 49 _ rfl, hp e he (bB_n0 h2)]
        refine ab_go ok_Pl_scoreOf 10 rfl ?_
        show ab_Z m_Pl_scoreOf _ _ _ 31 [_, _, _, _, _, _, _, _] [_, _, _, _, _, _] _
        refine ab_cl ok_Pl_scoreOf rfl [_] [_, _, _, _, _] rfl ⟨_, _, rfl, rfl, Or.inl ⟨_, _, rfl, rfl⟩⟩ (Nat.le_of_ble_eq_true rfl) (t_Sc_yearNow (d + 3) fm X s1 t) ?_
        rintro _ _ ⟨rfl, rfl⟩
        show ab_Z m_Pl_scoreOf _ _ _ 32 [_, _, _, _, _, _, _, _] [_, _, _, _, _, _] _
        refine ab_cl ok_Pl_scoreOf rfl [_, _, _, _, _, _] [] rfl ⟨_, _, rfl, rfl, Or.inl ⟨_, _, rfl, rfl⟩⟩ (Nat.le_of_ble_eq_true rfl) (t_Ha_bindsOf d fm X s1 t (CLaw_kp (by simp) hk.to2 hC.1.2.2.2.2.2.2.2.2.1) (show c < 5 by omega) he n (pr e) (s1 11 39)) ?_
        rintro _ _ ⟨rfl, s2, rfl, hk2⟩
        show ab_Z m_Pl_scoreOf _ _ _ 33 [_, _, _, _, _, _, _, _] [_] _
        rw [hk 16 c rfl, hk 11 39 rfl, hk 19 e rfl]
        refine ab_go ok_Pl_scoreOf 10 rfl ?_
        show ab_Z m_Pl_scoreOf _ _ _ 43 [_, _, _, _, _, _, _, _] [_, _, _, _, _] _
        refine ab_cl ok_Pl_scoreOf rfl [_, _] [_, _, _] rfl rfl (Nat.le_of_ble_eq_true rfl) (t_SF_at_9000 (d + 3) fm X s2 t _ e he rfl) ?_
        rintro _ _ ⟨rfl, rfl⟩
        show ab_Z m_Pl_scoreOf _ _ _ 44 [_, _, _, _, _, _, _, _] [_, _, _, _] _
        refine ab_go ok_Pl_scoreOf 6 rfl ?_
        show ab_Z m_Pl_scoreOf _ _ _ 4 [_, _, _, _, _, _, _, _] [] _
        have ih2 := ih s2 (hk.tr hk2)
        rw [if_pos (bB_n0 h2)] at ih2
        exact ih2
end

