theorem i_nn {x : Int32} (h : ¬ x < 0) : 0 ≤ x.toInt := by
  have h2 : ¬ x.toInt < (0 : Int32).toInt := fun z => h (Int32.lt_iff_toInt_lt.mpr z)
  have h3 : (0 : Int32).toInt = 0 := rfl
  omega
theorem i_neg {x : Int32} (h : x < 0) : x.toInt < 0 := by
  have h2 := Int32.lt_iff_toInt_lt.mp h
  have h3 : (0 : Int32).toInt = 0 := rfl
  omega
theorem i_lt {x y : Int32} (h : x < y) : x.toInt < y.toInt := Int32.lt_iff_toInt_lt.mp h
theorem i_le {x y : Int32} (h : x ≤ y) : x.toInt ≤ y.toInt := Int32.le_iff_toInt_le.mp h
theorem i_nlt {x y : Int32} (h : ¬ x < y) : y.toInt ≤ x.toInt := Int.not_lt.mp fun z => h (Int32.lt_iff_toInt_lt.mpr z)
theorem i_nle {x y : Int32} (h : ¬ x ≤ y) : y.toInt < x.toInt := Int.not_le.mp fun z => h (Int32.le_iff_toInt_le.mpr z)
theorem i_leK {k x : Int32} {z : Int} (hk : k.toInt = z) (h : k ≤ x) : z ≤ x.toInt := hk ▸ i_le h
theorem i_nleK {k x : Int32} {z : Int} (hk : k.toInt = z) (h : ¬ k ≤ x) : x.toInt < z := hk ▸ i_nle h
theorem i_ltK {k x : Int32} {z : Int} (hk : k.toInt = z) (h : k < x) : z < x.toInt := hk ▸ i_lt h
theorem i_nltK {k x : Int32} {z : Int} (hk : k.toInt = z) (h : ¬ k < x) : x.toInt ≤ z := hk ▸ i_nlt h
theorem i_leR {k x : Int32} {z : Int} (hk : k.toInt = z) (h : x ≤ k) : x.toInt ≤ z := hk ▸ i_le h
theorem i_nleR {k x : Int32} {z : Int} (hk : k.toInt = z) (h : ¬ x ≤ k) : z < x.toInt := hk ▸ i_nle h
theorem i_ltR {k x : Int32} {z : Int} (hk : k.toInt = z) (h : x < k) : x.toInt < z := hk ▸ i_lt h
theorem i_nltR {k x : Int32} {z : Int} (hk : k.toInt = z) (h : ¬ x < k) : z ≤ x.toInt := hk ▸ i_nlt h
theorem nI_t {n : Nat} (h : n < 2147483648) : (nI n).toInt = (n : Int) := nI_toInt h
theorem nI_c {n : Nat} (h : n < 2147483648) : (nI n).toNatClampNeg = n := nI_clamp h
theorem nI_l0 {n : Nat} (h : n < 2147483648) : ¬ nI n < 0 := nI_pos h
abbrev PI (r : Int32) (h : ab_H) : Option Value → ab_H → Prop := fun v h' => v = some (.int r) ∧ h' = h
abbrev PL (r : Int64) (h : ab_H) : Option Value → ab_H → Prop := fun v h' => v = some (.long r) ∧ h' = h
abbrev PV (h : ab_H) : Option Value → ab_H → Prop := fun v h' => v = none ∧ h' = h
def bI (p : Prop) [Decidable p] : Int32 := if p then 1 else 0
theorem bI_t {p : Prop} [Decidable p] (h : p) : bI p = 1 := if_pos h
theorem bI_f {p : Prop} [Decidable p] (h : ¬ p) : bI p = 0 := if_neg h
theorem bI_01 (p : Prop) [Decidable p] : bI p = 0 ∨ bI p = 1 := by
  unfold bI
  split
  · exact Or.inr rfl
  · exact Or.inl rfl
theorem bI_0 {p : Prop} [Decidable p] : bI p = 0 ↔ ¬ p := by
  unfold bI
  split
  · rename_i h; exact ⟨fun z => absurd z (by decide), fun z => absurd h z⟩
  · rename_i h; exact ⟨fun _ => h, fun _ => rfl⟩
theorem bI_c {p q : Prop} [Decidable p] [Decidable q] (h : p ↔ q) : bI p = bI q := by
  unfold bI
  by_cases hp : p
  · rw [if_pos hp, if_pos (h.mp hp)]
  · rw [if_neg hp, if_neg (fun z => hp (h.mpr z))]
/-- down a counted loop -/
theorem lp_dn (N : Nat) (P : Nat → Prop) (hx : P N) (hs : ∀ k, k < N → P (k + 1) → P k) : P 0 := by
  have : ∀ j, j ≤ N → P (N - j) := by
    intro j
    induction j with
    | zero => intro _; exact hx
    | succ j ih =>
      intro hj
      have := ih (by omega)
      rw [show N - j = (N - (j + 1)) + 1 by omega] at this
      exact hs _ (by omega) this
  have h := this N (Nat.le_refl N)
  rwa [Nat.sub_self] at h
theorem lp_in {N k : Nat} (hN : N < 2147483648) (h : k < N) : ¬ nI N ≤ nI k := nI_ge h hN
theorem lp_out (N : Nat) : nI N ≤ nI N := Int32.le_iff_toInt_le.mpr (Int.le_refl _)
section
variable (d : Nat) (h : ab_H)
theorem t_SF_isFeature (f : Int32) : ab_T g_SF_isFeature d (0, 0) [.int f] h (PI (bI (0 ≤ f.toInt ∧ f.toInt < 3)) h) := by
  refine ab_T_of (M := m_SF_isFeature) rfl rfl (Nat.le_of_ble_eq_true rfl) ?_
  show ab_Z m_SF_isFeature _ _ _ 0 [_] [] _
  refine ab_go ok_SF_isFeature 1 rfl ?_
  show ab_Z m_SF_isFeature _ _ _ 1 [_] [_] _
  refine ab_br ok_SF_isFeature rfl rfl ?_ ?_
  · intro hc
    show ab_Z m_SF_isFeature _ _ _ 7 [_] [] _
    refine ab_go ok_SF_isFeature 1 rfl ?_
    show ab_Z m_SF_isFeature _ _ _ 8 [_] [_] _
    exact ab_rZ ok_SF_isFeature rfl (by decide) (⟨by rw [bI_f (by have := i_neg hc; omega)], rfl⟩)
  · intro hc
    show ab_Z m_SF_isFeature _ _ _ 2 [_] [] _
    refine ab_go ok_SF_isFeature 2 rfl ?_
    show ab_Z m_SF_isFeature _ _ _ 4 [_] [_, _] _
    refine ab_br ok_SF_isFeature rfl rfl ?_ ?_
    · intro hd
      show ab_Z m_SF_isFeature _ _ _ 7 [_] [] _
      refine ab_go ok_SF_isFeature 1 rfl ?_
      show ab_Z m_SF_isFeature _ _ _ 8 [_] [_] _
      exact ab_rZ ok_SF_isFeature rfl (by decide) (⟨by rw [bI_f (by have := i_leK (z := 3) rfl hd; omega)], rfl⟩)
    · intro hd
      show ab_Z m_SF_isFeature _ _ _ 5 [_] [] _
      refine ab_go ok_SF_isFeature 2 rfl ?_
      show ab_Z m_SF_isFeature _ _ _ 8 [_] [_] _
      exact ab_rZ ok_SF_isFeature rfl (by decide) (⟨by rw [bI_t (by have := i_nn hc; have := i_nleK (z := 3) rfl hd; omega)], rfl⟩)
theorem t_SF_isLevel (f : Int32) : ab_T g_SF_isLevel d (0, 0) [.int f] h (PI (bI (0 ≤ f.toInt ∧ f.toInt < 10)) h) := by
  refine ab_T_of (M := m_SF_isLevel) rfl rfl (Nat.le_of_ble_eq_true rfl) ?_
  show ab_Z m_SF_isLevel _ _ _ 0 [_] [] _
  refine ab_go ok_SF_isLevel 1 rfl ?_
  show ab_Z m_SF_isLevel _ _ _ 1 [_] [_] _
  refine ab_br ok_SF_isLevel rfl rfl ?_ ?_
  · intro hc
    show ab_Z m_SF_isLevel _ _ _ 7 [_] [] _
    refine ab_go ok_SF_isLevel 1 rfl ?_
    show ab_Z m_SF_isLevel _ _ _ 8 [_] [_] _
    exact ab_rZ ok_SF_isLevel rfl (by decide) (⟨by rw [bI_f (by have := i_neg hc; omega)], rfl⟩)
  · intro hc
    show ab_Z m_SF_isLevel _ _ _ 2 [_] [] _
    refine ab_go ok_SF_isLevel 2 rfl ?_
    show ab_Z m_SF_isLevel _ _ _ 4 [_] [_, _] _
    refine ab_br ok_SF_isLevel rfl rfl ?_ ?_
    · intro hd
      show ab_Z m_SF_isLevel _ _ _ 7 [_] [] _
      refine ab_go ok_SF_isLevel 1 rfl ?_
      show ab_Z m_SF_isLevel _ _ _ 8 [_] [_] _
      exact ab_rZ ok_SF_isLevel rfl (by decide) (⟨by rw [bI_f (by have := i_ltK (z := 9) rfl hd; omega)], rfl⟩)
    · intro hd
      show ab_Z m_SF_isLevel _ _ _ 5 [_] [] _
      refine ab_go ok_SF_isLevel 2 rfl ?_
      show ab_Z m_SF_isLevel _ _ _ 8 [_] [_] _
      exact ab_rZ ok_SF_isLevel rfl (by decide) (⟨by rw [bI_t (by have := i_nn hc; have := i_nltK (z := 9) rfl hd; omega)], rfl⟩)
theorem t_SF_isHow (w : Int32) : ab_T g_SF_isHowManyOrWho d (0, 0) [.int w] h (PI (bI (w = 0 ∨ w = 1)) h) := by
  refine ab_T_of (M := m_SF_isHowManyOrWho) rfl rfl (Nat.le_of_ble_eq_true rfl) ?_
  show ab_Z m_SF_isHowManyOrWho _ _ _ 0 [_] [] _
  refine ab_go ok_SF_isHowManyOrWho 1 rfl ?_
  show ab_Z m_SF_isHowManyOrWho _ _ _ 1 [_] [_] _
  refine ab_br ok_SF_isHowManyOrWho rfl rfl ?_ ?_
  · intro hc
    show ab_Z m_SF_isHowManyOrWho _ _ _ 5 [_] [] _
    refine ab_go ok_SF_isHowManyOrWho 2 rfl ?_
    show ab_Z m_SF_isHowManyOrWho _ _ _ 8 [_] [_] _
    exact ab_rZ ok_SF_isHowManyOrWho rfl (by decide) (⟨by rw [bI_t (Or.inl hc)], rfl⟩)
  · intro hc
    show ab_Z m_SF_isHowManyOrWho _ _ _ 2 [_] [] _
    refine ab_go ok_SF_isHowManyOrWho 2 rfl ?_
    show ab_Z m_SF_isHowManyOrWho _ _ _ 4 [_] [_, _] _
    refine ab_br ok_SF_isHowManyOrWho rfl rfl ?_ ?_
    · intro hd
      show ab_Z m_SF_isHowManyOrWho _ _ _ 5 [_] [] _
      refine ab_go ok_SF_isHowManyOrWho 2 rfl ?_
      show ab_Z m_SF_isHowManyOrWho _ _ _ 8 [_] [_] _
      exact ab_rZ ok_SF_isHowManyOrWho rfl (by decide) (⟨by rw [bI_t (Or.inr hd)], rfl⟩)
    · intro hd
      show ab_Z m_SF_isHowManyOrWho _ _ _ 7 [_] [] _
      refine ab_go ok_SF_isHowManyOrWho 1 rfl ?_
      show ab_Z m_SF_isHowManyOrWho _ _ _ 8 [_] [_] _
      exact ab_rZ ok_SF_isHowManyOrWho rfl (by decide) (⟨by rw [bI_f (fun z => z.elim hc hd)], rfl⟩)
theorem t_JM_max (x y : Int32) : ab_T g_JM_max d (0, 0) [.int x, .int y] h (PI (if x < y then y else x) h) := by
  refine ab_T_ofF (M := m_JM_max) (by decide +kernel) rfl (Nat.le_of_ble_eq_true rfl) ?_
  show ab_Z m_JM_max _ _ _ 0 [_, _] [] _
  refine ab_go ok_JM_max 2 rfl ?_
  show ab_Z m_JM_max _ _ _ 2 [_, _] [_, _] _
  refine ab_br ok_JM_max rfl rfl ?_ ?_
  · intro hc
    show ab_Z m_JM_max _ _ _ 5 [_, _] [] _
    refine ab_go ok_JM_max 1 rfl ?_
    show ab_Z m_JM_max _ _ _ 6 [_, _] [_] _
    exact ab_rI ok_JM_max rfl (⟨by rw [if_pos hc], rfl⟩)
  · intro hc
    show ab_Z m_JM_max _ _ _ 3 [_, _] [] _
    refine ab_go ok_JM_max 2 rfl ?_
    show ab_Z m_JM_max _ _ _ 6 [_, _] [_] _
    exact ab_rI ok_JM_max rfl (⟨by rw [if_neg hc], rfl⟩)
theorem t_JM_min (x y : Int32) : ab_T g_JM_min d (0, 0) [.int x, .int y] h (PI (if y < x then y else x) h) := by
  refine ab_T_ofF (M := m_JM_min) (by decide +kernel) rfl (Nat.le_of_ble_eq_true rfl) ?_
  show ab_Z m_JM_min _ _ _ 0 [_, _] [] _
  refine ab_go ok_JM_min 2 rfl ?_
  show ab_Z m_JM_min _ _ _ 2 [_, _] [_, _] _
  refine ab_br ok_JM_min rfl rfl ?_ ?_
  · intro hc
    show ab_Z m_JM_min _ _ _ 5 [_, _] [] _
    refine ab_go ok_JM_min 1 rfl ?_
    show ab_Z m_JM_min _ _ _ 6 [_, _] [_] _
    exact ab_rI ok_JM_min rfl (⟨by rw [if_pos hc], rfl⟩)
  · intro hc
    show ab_Z m_JM_min _ _ _ 3 [_, _] [] _
    refine ab_go ok_JM_min 2 rfl ?_
    show ab_Z m_JM_min _ _ _ 6 [_, _] [_] _
    exact ab_rI ok_JM_min rfl (⟨by rw [if_neg hc], rfl⟩)
theorem t_JM_abs (x : Int32) : ab_T g_JM_abs d (0, 0) [.int x] h (PI (if x < 0 then -x else x) h) := by
  refine ab_T_ofF (M := m_JM_abs) (by decide +kernel) rfl (Nat.le_of_ble_eq_true rfl) ?_
  show ab_Z m_JM_abs _ _ _ 0 [_] [] _
  refine ab_go ok_JM_abs 1 rfl ?_
  show ab_Z m_JM_abs _ _ _ 1 [_] [_] _
  refine ab_br ok_JM_abs rfl rfl ?_ ?_
  · intro hc
    show ab_Z m_JM_abs _ _ _ 5 [_] [] _
    refine ab_go ok_JM_abs 1 rfl ?_
    show ab_Z m_JM_abs _ _ _ 6 [_] [_] _
    exact ab_rI ok_JM_abs rfl (⟨by rw [if_neg (by intro z; have := i_neg z; have := i_leK (z := 0) rfl hc; omega)], rfl⟩)
  · intro hc
    show ab_Z m_JM_abs _ _ _ 2 [_] [] _
    refine ab_go ok_JM_abs 3 rfl ?_
    show ab_Z m_JM_abs _ _ _ 6 [_] [_] _
    exact ab_rI ok_JM_abs rfl (⟨by rw [if_pos (by have := i_nleK (z := 0) rfl hc; exact Int32.lt_iff_toInt_lt.mpr this)], rfl⟩)
def bcF (x : Int32) : Int32 :=
  let u (a : Int32) (k : Int32) : Int32 := (a.toUInt32 >>> (k.toUInt32 &&& Int32.toUInt32 31)).toInt32
  let a := x - (u x 1 &&& 1431655765)
  let b := (a &&& 858993459) + (u a 2 &&& 858993459)
  let c := (b + u b 4) &&& 252645135
  let e := c + u c 8
  let f := e + u e 16
  f &&& 63
theorem t_JI_bitCount (x : Int32) : ab_T g_JI_bitCount d (0, 0) [.int x] h (PI (bcF x) h) := by
  refine ab_T_of (M := m_JI_bitCount) rfl rfl (Nat.le_of_ble_eq_true rfl) ?_
  show ab_Z m_JI_bitCount _ _ _ 0 [_] [] _
  refine ab_go ok_JI_bitCount 41 rfl ?_
  show ab_Z m_JI_bitCount _ _ _ 41 [_] [_] _
  exact ab_rI ok_JI_bitCount rfl (⟨rfl, rfl⟩)
theorem t_SF_heldTo (v m : Int32) : ab_T g_SF_heldTo (d + 1) (0, 0) [.int v, .int m] h (PI (if 0 < (if v < m then v else m) then (if v < m then v else m) else 0) h) := by
  refine ab_T_of (M := m_SF_heldTo) rfl rfl (Nat.le_of_ble_eq_true rfl) ?_
  show ab_Z m_SF_heldTo _ _ _ 0 [_, _] [] _
  refine ab_go ok_SF_heldTo 3 rfl ?_
  show ab_Z m_SF_heldTo _ _ _ 3 [_, _] [_, _, _] _
  refine ab_cl ok_SF_heldTo rfl [_, _] [_] rfl rfl (Nat.le_of_ble_eq_true rfl) (t_JM_min d _ m v) ?_
  rintro _ _ ⟨rfl, rfl⟩
  show ab_Z m_SF_heldTo _ _ _ 4 [_, _] [_, _] _
  show ab_Z m_SF_heldTo _ _ _ 4 [_, _] [_, _] _
  refine ab_cl ok_SF_heldTo rfl [_, _] [] rfl rfl (Nat.le_of_ble_eq_true rfl) (t_JM_max d _ 0 _) ?_
  rintro _ _ ⟨rfl, rfl⟩
  show ab_Z m_SF_heldTo _ _ _ 5 [_, _] [_] _
  exact ab_rI ok_SF_heldTo rfl (⟨rfl, rfl⟩)
end
section
variable (d : Nat) (fm : Value) (X : Nat × (Nat → Int32)) (s : Nat → Nat → Int32) (t : Nat → Nat → Int64)
theorem t_SF_at_11 (i : Int32) (k : Nat) (hk : k < 40) (hi : i = nI k) : ab_T g_SF_at d (0, 0) [.ref 11, .int i] (HA fm X s t) (PI ((s 11) k) (HA fm X s t)) := by
  subst hi
  refine ab_T_of (M := m_SF_at) rfl rfl (Nat.le_of_ble_eq_true rfl) ?_
  show ab_Z m_SF_at _ _ _ 0 [_, _] [] _
  refine ab_go ok_SF_at 1 rfl ?_
  show ab_Z m_SF_at _ _ _ 1 [_, _] [_] _
  refine ab_br ok_SF_at rfl rfl ?_ ?_
  · intro hc
    show ab_Z m_SF_at _ _ _ 10 [_, _] [] _
    exact absurd hc (nI_l0 (by omega))
  · intro hc
    show ab_Z m_SF_at _ _ _ 2 [_, _] [] _
    refine ab_go ok_SF_at 3 rfl ?_
    show ab_Z m_SF_at _ _ _ 5 [_, _] [_, _] _
    refine ab_br ok_SF_at rfl rfl ?_ ?_
    · intro hd
      show ab_Z m_SF_at _ _ _ 10 [_, _] [] _
      exact absurd hd (nI_ge hk (by decide))
    · intro hd
      show ab_Z m_SF_at _ _ _ 6 [_, _] [] _
      refine ab_go ok_SF_at 2 rfl ?_
      show ab_Z m_SF_at _ _ _ 8 [_, _] [_, _] _
      refine ab_ck ok_SF_at rfl rfl (by rw [nI_t (by omega)]; omega) ?_
      show ab_Z m_SF_at _ _ _ 9 [_, _] [_] _
      refine ab_go ok_SF_at 1 rfl ?_
      show ab_Z m_SF_at _ _ _ 11 [_, _] [_] _
      exact ab_rI ok_SF_at rfl (⟨by rw [nI_c (by omega)], rfl⟩)
theorem t_SF_at_13 (i : Int32) (k : Nat) (hk : k < 3) (hi : i = nI k) : ab_T g_SF_at d (0, 0) [.ref 13, .int i] (HA fm X s t) (PI ((s 13) k) (HA fm X s t)) := by
  subst hi
  refine ab_T_of (M := m_SF_at) rfl rfl (Nat.le_of_ble_eq_true rfl) ?_
  show ab_Z m_SF_at _ _ _ 0 [_, _] [] _
  refine ab_go ok_SF_at 1 rfl ?_
  show ab_Z m_SF_at _ _ _ 1 [_, _] [_] _
  refine ab_br ok_SF_at rfl rfl ?_ ?_
  · intro hc
    show ab_Z m_SF_at _ _ _ 10 [_, _] [] _
    exact absurd hc (nI_l0 (by omega))
  · intro hc
    show ab_Z m_SF_at _ _ _ 2 [_, _] [] _
    refine ab_go ok_SF_at 3 rfl ?_
    show ab_Z m_SF_at _ _ _ 5 [_, _] [_, _] _
    refine ab_br ok_SF_at rfl rfl ?_ ?_
    · intro hd
      show ab_Z m_SF_at _ _ _ 10 [_, _] [] _
      exact absurd hd (nI_ge hk (by decide))
    · intro hd
      show ab_Z m_SF_at _ _ _ 6 [_, _] [] _
      refine ab_go ok_SF_at 2 rfl ?_
      show ab_Z m_SF_at _ _ _ 8 [_, _] [_, _] _
      refine ab_ck ok_SF_at rfl rfl (by rw [nI_t (by omega)]; omega) ?_
      show ab_Z m_SF_at _ _ _ 9 [_, _] [_] _
      refine ab_go ok_SF_at 1 rfl ?_
      show ab_Z m_SF_at _ _ _ 11 [_, _] [_] _
      exact ab_rI ok_SF_at rfl (⟨by rw [nI_c (by omega)], rfl⟩)
theorem t_SF_at_16 (i : Int32) (k : Nat) (hk : k < 5) (hi : i = nI k) : ab_T g_SF_at d (0, 0) [.ref 16, .int i] (HA fm X s t) (PI ((s 16) k) (HA fm X s t)) := by
  subst hi
  refine ab_T_of (M := m_SF_at) rfl rfl (Nat.le_of_ble_eq_true rfl) ?_
  show ab_Z m_SF_at _ _ _ 0 [_, _] [] _
  refine ab_go ok_SF_at 1 rfl ?_
  show ab_Z m_SF_at _ _ _ 1 [_, _] [_] _
  refine ab_br ok_SF_at rfl rfl ?_ ?_
  · intro hc
    show ab_Z m_SF_at _ _ _ 10 [_, _] [] _
    exact absurd hc (nI_l0 (by omega))
  · intro hc
    show ab_Z m_SF_at _ _ _ 2 [_, _] [] _
    refine ab_go ok_SF_at 3 rfl ?_
    show ab_Z m_SF_at _ _ _ 5 [_, _] [_, _] _
    refine ab_br ok_SF_at rfl rfl ?_ ?_
    · intro hd
      show ab_Z m_SF_at _ _ _ 10 [_, _] [] _
      exact absurd hd (nI_ge hk (by decide))
    · intro hd
      show ab_Z m_SF_at _ _ _ 6 [_, _] [] _
      refine ab_go ok_SF_at 2 rfl ?_
      show ab_Z m_SF_at _ _ _ 8 [_, _] [_, _] _
      refine ab_ck ok_SF_at rfl rfl (by rw [nI_t (by omega)]; omega) ?_
      show ab_Z m_SF_at _ _ _ 9 [_, _] [_] _
      refine ab_go ok_SF_at 1 rfl ?_
      show ab_Z m_SF_at _ _ _ 11 [_, _] [_] _
      exact ab_rI ok_SF_at rfl (⟨by rw [nI_c (by omega)], rfl⟩)
theorem t_SF_at_17 (i : Int32) (k : Nat) (hk : k < 15) (hi : i = nI k) : ab_T g_SF_at d (0, 0) [.ref 17, .int i] (HA fm X s t) (PI ((s 17) k) (HA fm X s t)) := by
  subst hi
  refine ab_T_of (M := m_SF_at) rfl rfl (Nat.le_of_ble_eq_true rfl) ?_
  show ab_Z m_SF_at _ _ _ 0 [_, _] [] _
  refine ab_go ok_SF_at 1 rfl ?_
  show ab_Z m_SF_at _ _ _ 1 [_, _] [_] _
  refine ab_br ok_SF_at rfl rfl ?_ ?_
  · intro hc
    show ab_Z m_SF_at _ _ _ 10 [_, _] [] _
    exact absurd hc (nI_l0 (by omega))
  · intro hc
    show ab_Z m_SF_at _ _ _ 2 [_, _] [] _
    refine ab_go ok_SF_at 3 rfl ?_
    show ab_Z m_SF_at _ _ _ 5 [_, _] [_, _] _
    refine ab_br ok_SF_at rfl rfl ?_ ?_
    · intro hd
      show ab_Z m_SF_at _ _ _ 10 [_, _] [] _
      exact absurd hd (nI_ge hk (by decide))
    · intro hd
      show ab_Z m_SF_at _ _ _ 6 [_, _] [] _
      refine ab_go ok_SF_at 2 rfl ?_
      show ab_Z m_SF_at _ _ _ 8 [_, _] [_, _] _
      refine ab_ck ok_SF_at rfl rfl (by rw [nI_t (by omega)]; omega) ?_
      show ab_Z m_SF_at _ _ _ 9 [_, _] [_] _
      refine ab_go ok_SF_at 1 rfl ?_
      show ab_Z m_SF_at _ _ _ 11 [_, _] [_] _
      exact ab_rI ok_SF_at rfl (⟨by rw [nI_c (by omega)], rfl⟩)
theorem t_SF_at_19 (i : Int32) (k : Nat) (hk : k < 6) (hi : i = nI k) : ab_T g_SF_at d (0, 0) [.ref 19, .int i] (HA fm X s t) (PI ((s 19) k) (HA fm X s t)) := by
  subst hi
  refine ab_T_of (M := m_SF_at) rfl rfl (Nat.le_of_ble_eq_true rfl) ?_
  show ab_Z m_SF_at _ _ _ 0 [_, _] [] _
  refine ab_go ok_SF_at 1 rfl ?_
  show ab_Z m_SF_at _ _ _ 1 [_, _] [_] _
  refine ab_br ok_SF_at rfl rfl ?_ ?_
  · intro hc
    show ab_Z m_SF_at _ _ _ 10 [_, _] [] _
    exact absurd hc (nI_l0 (by omega))
  · intro hc
    show ab_Z m_SF_at _ _ _ 2 [_, _] [] _
    refine ab_go ok_SF_at 3 rfl ?_
    show ab_Z m_SF_at _ _ _ 5 [_, _] [_, _] _
    refine ab_br ok_SF_at rfl rfl ?_ ?_
    · intro hd
      show ab_Z m_SF_at _ _ _ 10 [_, _] [] _
      exact absurd hd (nI_ge hk (by decide))
    · intro hd
      show ab_Z m_SF_at _ _ _ 6 [_, _] [] _
      refine ab_go ok_SF_at 2 rfl ?_
      show ab_Z m_SF_at _ _ _ 8 [_, _] [_, _] _
      refine ab_ck ok_SF_at rfl rfl (by rw [nI_t (by omega)]; omega) ?_
      show ab_Z m_SF_at _ _ _ 9 [_, _] [_] _
      refine ab_go ok_SF_at 1 rfl ?_
      show ab_Z m_SF_at _ _ _ 11 [_, _] [_] _
      exact ab_rI ok_SF_at rfl (⟨by rw [nI_c (by omega)], rfl⟩)
theorem t_SF_at_20 (i : Int32) (k : Nat) (hk : k < 18) (hi : i = nI k) : ab_T g_SF_at d (0, 0) [.ref 20, .int i] (HA fm X s t) (PI ((s 20) k) (HA fm X s t)) := by
  subst hi
  refine ab_T_of (M := m_SF_at) rfl rfl (Nat.le_of_ble_eq_true rfl) ?_
  show ab_Z m_SF_at _ _ _ 0 [_, _] [] _
  refine ab_go ok_SF_at 1 rfl ?_
  show ab_Z m_SF_at _ _ _ 1 [_, _] [_] _
  refine ab_br ok_SF_at rfl rfl ?_ ?_
  · intro hc
    show ab_Z m_SF_at _ _ _ 10 [_, _] [] _
    exact absurd hc (nI_l0 (by omega))
  · intro hc
    show ab_Z m_SF_at _ _ _ 2 [_, _] [] _
    refine ab_go ok_SF_at 3 rfl ?_
    show ab_Z m_SF_at _ _ _ 5 [_, _] [_, _] _
    refine ab_br ok_SF_at rfl rfl ?_ ?_
    · intro hd
      show ab_Z m_SF_at _ _ _ 10 [_, _] [] _
      exact absurd hd (nI_ge hk (by decide))
    · intro hd
      show ab_Z m_SF_at _ _ _ 6 [_, _] [] _
      refine ab_go ok_SF_at 2 rfl ?_
      show ab_Z m_SF_at _ _ _ 8 [_, _] [_, _] _
      refine ab_ck ok_SF_at rfl rfl (by rw [nI_t (by omega)]; omega) ?_
      show ab_Z m_SF_at _ _ _ 9 [_, _] [_] _
      refine ab_go ok_SF_at 1 rfl ?_
      show ab_Z m_SF_at _ _ _ 11 [_, _] [_] _
      exact ab_rI ok_SF_at rfl (⟨by rw [nI_c (by omega)], rfl⟩)
theorem t_SF_at_21 (i : Int32) (k : Nat) (hk : k < 12) (hi : i = nI k) : ab_T g_SF_at d (0, 0) [.ref 21, .int i] (HA fm X s t) (PI ((s 21) k) (HA fm X s t)) := by
  subst hi
  refine ab_T_of (M := m_SF_at) rfl rfl (Nat.le_of_ble_eq_true rfl) ?_
  show ab_Z m_SF_at _ _ _ 0 [_, _] [] _
  refine ab_go ok_SF_at 1 rfl ?_
  show ab_Z m_SF_at _ _ _ 1 [_, _] [_] _
  refine ab_br ok_SF_at rfl rfl ?_ ?_
  · intro hc
    show ab_Z m_SF_at _ _ _ 10 [_, _] [] _
    exact absurd hc (nI_l0 (by omega))
  · intro hc
    show ab_Z m_SF_at _ _ _ 2 [_, _] [] _
    refine ab_go ok_SF_at 3 rfl ?_
    show ab_Z m_SF_at _ _ _ 5 [_, _] [_, _] _
    refine ab_br ok_SF_at rfl rfl ?_ ?_
    · intro hd
      show ab_Z m_SF_at _ _ _ 10 [_, _] [] _
      exact absurd hd (nI_ge hk (by decide))
    · intro hd
      show ab_Z m_SF_at _ _ _ 6 [_, _] [] _
      refine ab_go ok_SF_at 2 rfl ?_
      show ab_Z m_SF_at _ _ _ 8 [_, _] [_, _] _
      refine ab_ck ok_SF_at rfl rfl (by rw [nI_t (by omega)]; omega) ?_
      show ab_Z m_SF_at _ _ _ 9 [_, _] [_] _
      refine ab_go ok_SF_at 1 rfl ?_
      show ab_Z m_SF_at _ _ _ 11 [_, _] [_] _
      exact ab_rI ok_SF_at rfl (⟨by rw [nI_c (by omega)], rfl⟩)
theorem t_SF_at_47 (i : Int32) (k : Nat) (hk : k < 320) (hi : i = nI k) : ab_T g_SF_at d (0, 0) [.ref 47, .int i] (HA fm X s t) (PI ((s 47) k) (HA fm X s t)) := by
  subst hi
  refine ab_T_of (M := m_SF_at) rfl rfl (Nat.le_of_ble_eq_true rfl) ?_
  show ab_Z m_SF_at _ _ _ 0 [_, _] [] _
  refine ab_go ok_SF_at 1 rfl ?_
  show ab_Z m_SF_at _ _ _ 1 [_, _] [_] _
  refine ab_br ok_SF_at rfl rfl ?_ ?_
  · intro hc
    show ab_Z m_SF_at _ _ _ 10 [_, _] [] _
    exact absurd hc (nI_l0 (by omega))
  · intro hc
    show ab_Z m_SF_at _ _ _ 2 [_, _] [] _
    refine ab_go ok_SF_at 3 rfl ?_
    show ab_Z m_SF_at _ _ _ 5 [_, _] [_, _] _
    refine ab_br ok_SF_at rfl rfl ?_ ?_
    · intro hd
      show ab_Z m_SF_at _ _ _ 10 [_, _] [] _
      exact absurd hd (nI_ge hk (by decide))
    · intro hd
      show ab_Z m_SF_at _ _ _ 6 [_, _] [] _
      refine ab_go ok_SF_at 2 rfl ?_
      show ab_Z m_SF_at _ _ _ 8 [_, _] [_, _] _
      refine ab_ck ok_SF_at rfl rfl (by rw [nI_t (by omega)]; omega) ?_
      show ab_Z m_SF_at _ _ _ 9 [_, _] [_] _
      refine ab_go ok_SF_at 1 rfl ?_
      show ab_Z m_SF_at _ _ _ 11 [_, _] [_] _
      exact ab_rI ok_SF_at rfl (⟨by rw [nI_c (by omega)], rfl⟩)
theorem t_SF_at_48 (i : Int32) (k : Nat) (hk : k < 192) (hi : i = nI k) : ab_T g_SF_at d (0, 0) [.ref 48, .int i] (HA fm X s t) (PI ((s 48) k) (HA fm X s t)) := by
  subst hi
  refine ab_T_of (M := m_SF_at) rfl rfl (Nat.le_of_ble_eq_true rfl) ?_
  show ab_Z m_SF_at _ _ _ 0 [_, _] [] _
  refine ab_go ok_SF_at 1 rfl ?_
  show ab_Z m_SF_at _ _ _ 1 [_, _] [_] _
  refine ab_br ok_SF_at rfl rfl ?_ ?_
  · intro hc
    show ab_Z m_SF_at _ _ _ 10 [_, _] [] _
    exact absurd hc (nI_l0 (by omega))
  · intro hc
    show ab_Z m_SF_at _ _ _ 2 [_, _] [] _
    refine ab_go ok_SF_at 3 rfl ?_
    show ab_Z m_SF_at _ _ _ 5 [_, _] [_, _] _
    refine ab_br ok_SF_at rfl rfl ?_ ?_
    · intro hd
      show ab_Z m_SF_at _ _ _ 10 [_, _] [] _
      exact absurd hd (nI_ge hk (by decide))
    · intro hd
      show ab_Z m_SF_at _ _ _ 6 [_, _] [] _
      refine ab_go ok_SF_at 2 rfl ?_
      show ab_Z m_SF_at _ _ _ 8 [_, _] [_, _] _
      refine ab_ck ok_SF_at rfl rfl (by rw [nI_t (by omega)]; omega) ?_
      show ab_Z m_SF_at _ _ _ 9 [_, _] [_] _
      refine ab_go ok_SF_at 1 rfl ?_
      show ab_Z m_SF_at _ _ _ 11 [_, _] [_] _
      exact ab_rI ok_SF_at rfl (⟨by rw [nI_c (by omega)], rfl⟩)
theorem t_SF_at_49 (i : Int32) (k : Nat) (hk : k < 64) (hi : i = nI k) : ab_T g_SF_at d (0, 0) [.ref 49, .int i] (HA fm X s t) (PI ((s 49) k) (HA fm X s t)) := by
  subst hi
  refine ab_T_of (M := m_SF_at) rfl rfl (Nat.le_of_ble_eq_true rfl) ?_
  show ab_Z m_SF_at _ _ _ 0 [_, _] [] _
  refine ab_go ok_SF_at 1 rfl ?_
  show ab_Z m_SF_at _ _ _ 1 [_, _] [_] _
  refine ab_br ok_SF_at rfl rfl ?_ ?_
  · intro hc
    show ab_Z m_SF_at _ _ _ 10 [_, _] [] _
    exact absurd hc (nI_l0 (by omega))
  · intro hc
    show ab_Z m_SF_at _ _ _ 2 [_, _] [] _
    refine ab_go ok_SF_at 3 rfl ?_
    show ab_Z m_SF_at _ _ _ 5 [_, _] [_, _] _
    refine ab_br ok_SF_at rfl rfl ?_ ?_
    · intro hd
      show ab_Z m_SF_at _ _ _ 10 [_, _] [] _
      exact absurd hd (nI_ge hk (by decide))
    · intro hd
      show ab_Z m_SF_at _ _ _ 6 [_, _] [] _
      refine ab_go ok_SF_at 2 rfl ?_
      show ab_Z m_SF_at _ _ _ 8 [_, _] [_, _] _
      refine ab_ck ok_SF_at rfl rfl (by rw [nI_t (by omega)]; omega) ?_
      show ab_Z m_SF_at _ _ _ 9 [_, _] [_] _
      refine ab_go ok_SF_at 1 rfl ?_
      show ab_Z m_SF_at _ _ _ 11 [_, _] [_] _
      exact ab_rI ok_SF_at rfl (⟨by rw [nI_c (by omega)], rfl⟩)
theorem t_SF_at_50 (i : Int32) (k : Nat) (hk : k < 64) (hi : i = nI k) : ab_T g_SF_at d (0, 0) [.ref 50, .int i] (HA fm X s t) (PI ((s 50) k) (HA fm X s t)) := by
  subst hi
  refine ab_T_of (M := m_SF_at) rfl rfl (Nat.le_of_ble_eq_true rfl) ?_
  show ab_Z m_SF_at _ _ _ 0 [_, _] [] _
  refine ab_go ok_SF_at 1 rfl ?_
  show ab_Z m_SF_at _ _ _ 1 [_, _] [_] _
  refine ab_br ok_SF_at rfl rfl ?_ ?_
  · intro hc
    show ab_Z m_SF_at _ _ _ 10 [_, _] [] _
    exact absurd hc (nI_l0 (by omega))
  · intro hc
    show ab_Z m_SF_at _ _ _ 2 [_, _] [] _
    refine ab_go ok_SF_at 3 rfl ?_
    show ab_Z m_SF_at _ _ _ 5 [_, _] [_, _] _
    refine ab_br ok_SF_at rfl rfl ?_ ?_
    · intro hd
      show ab_Z m_SF_at _ _ _ 10 [_, _] [] _
      exact absurd hd (nI_ge hk (by decide))
    · intro hd
      show ab_Z m_SF_at _ _ _ 6 [_, _] [] _
      refine ab_go ok_SF_at 2 rfl ?_
      show ab_Z m_SF_at _ _ _ 8 [_, _] [_, _] _
      refine ab_ck ok_SF_at rfl rfl (by rw [nI_t (by omega)]; omega) ?_
      show ab_Z m_SF_at _ _ _ 9 [_, _] [_] _
      refine ab_go ok_SF_at 1 rfl ?_
      show ab_Z m_SF_at _ _ _ 11 [_, _] [_] _
      exact ab_rI ok_SF_at rfl (⟨by rw [nI_c (by omega)], rfl⟩)
theorem t_SF_at_53 (i : Int32) (k : Nat) (hk : k < 6) (hi : i = nI k) : ab_T g_SF_at d (0, 0) [.ref 53, .int i] (HA fm X s t) (PI ((s 53) k) (HA fm X s t)) := by
  subst hi
  refine ab_T_of (M := m_SF_at) rfl rfl (Nat.le_of_ble_eq_true rfl) ?_
  show ab_Z m_SF_at _ _ _ 0 [_, _] [] _
  refine ab_go ok_SF_at 1 rfl ?_
  show ab_Z m_SF_at _ _ _ 1 [_, _] [_] _
  refine ab_br ok_SF_at rfl rfl ?_ ?_
  · intro hc
    show ab_Z m_SF_at _ _ _ 10 [_, _] [] _
    exact absurd hc (nI_l0 (by omega))
  · intro hc
    show ab_Z m_SF_at _ _ _ 2 [_, _] [] _
    refine ab_go ok_SF_at 3 rfl ?_
    show ab_Z m_SF_at _ _ _ 5 [_, _] [_, _] _
    refine ab_br ok_SF_at rfl rfl ?_ ?_
    · intro hd
      show ab_Z m_SF_at _ _ _ 10 [_, _] [] _
      exact absurd hd (nI_ge hk (by decide))
    · intro hd
      show ab_Z m_SF_at _ _ _ 6 [_, _] [] _
      refine ab_go ok_SF_at 2 rfl ?_
      show ab_Z m_SF_at _ _ _ 8 [_, _] [_, _] _
      refine ab_ck ok_SF_at rfl rfl (by rw [nI_t (by omega)]; omega) ?_
      show ab_Z m_SF_at _ _ _ 9 [_, _] [_] _
      refine ab_go ok_SF_at 1 rfl ?_
      show ab_Z m_SF_at _ _ _ 11 [_, _] [_] _
      exact ab_rI ok_SF_at rfl (⟨by rw [nI_c (by omega)], rfl⟩)
theorem t_SF_at_54 (i : Int32) (k : Nat) (hk : k < 224) (hi : i = nI k) : ab_T g_SF_at d (0, 0) [.ref 54, .int i] (HA fm X s t) (PI ((s 54) k) (HA fm X s t)) := by
  subst hi
  refine ab_T_of (M := m_SF_at) rfl rfl (Nat.le_of_ble_eq_true rfl) ?_
  show ab_Z m_SF_at _ _ _ 0 [_, _] [] _
  refine ab_go ok_SF_at 1 rfl ?_
  show ab_Z m_SF_at _ _ _ 1 [_, _] [_] _
  refine ab_br ok_SF_at rfl rfl ?_ ?_
  · intro hc
    show ab_Z m_SF_at _ _ _ 10 [_, _] [] _
    exact absurd hc (nI_l0 (by omega))
  · intro hc
    show ab_Z m_SF_at _ _ _ 2 [_, _] [] _
    refine ab_go ok_SF_at 3 rfl ?_
    show ab_Z m_SF_at _ _ _ 5 [_, _] [_, _] _
    refine ab_br ok_SF_at rfl rfl ?_ ?_
    · intro hd
      show ab_Z m_SF_at _ _ _ 10 [_, _] [] _
      exact absurd hd (nI_ge hk (by decide))
    · intro hd
      show ab_Z m_SF_at _ _ _ 6 [_, _] [] _
      refine ab_go ok_SF_at 2 rfl ?_
      show ab_Z m_SF_at _ _ _ 8 [_, _] [_, _] _
      refine ab_ck ok_SF_at rfl rfl (by rw [nI_t (by omega)]; omega) ?_
      show ab_Z m_SF_at _ _ _ 9 [_, _] [_] _
      refine ab_go ok_SF_at 1 rfl ?_
      show ab_Z m_SF_at _ _ _ 11 [_, _] [_] _
      exact ab_rI ok_SF_at rfl (⟨by rw [nI_c (by omega)], rfl⟩)
theorem t_SF_at_55 (i : Int32) (k : Nat) (hk : k < 6) (hi : i = nI k) : ab_T g_SF_at d (0, 0) [.ref 55, .int i] (HA fm X s t) (PI ((s 55) k) (HA fm X s t)) := by
  subst hi
  refine ab_T_of (M := m_SF_at) rfl rfl (Nat.le_of_ble_eq_true rfl) ?_
  show ab_Z m_SF_at _ _ _ 0 [_, _] [] _
  refine ab_go ok_SF_at 1 rfl ?_
  show ab_Z m_SF_at _ _ _ 1 [_, _] [_] _
  refine ab_br ok_SF_at rfl rfl ?_ ?_
  · intro hc
    show ab_Z m_SF_at _ _ _ 10 [_, _] [] _
    exact absurd hc (nI_l0 (by omega))
  · intro hc
    show ab_Z m_SF_at _ _ _ 2 [_, _] [] _
    refine ab_go ok_SF_at 3 rfl ?_
    show ab_Z m_SF_at _ _ _ 5 [_, _] [_, _] _
    refine ab_br ok_SF_at rfl rfl ?_ ?_
    · intro hd
      show ab_Z m_SF_at _ _ _ 10 [_, _] [] _
      exact absurd hd (nI_ge hk (by decide))
    · intro hd
      show ab_Z m_SF_at _ _ _ 6 [_, _] [] _
      refine ab_go ok_SF_at 2 rfl ?_
      show ab_Z m_SF_at _ _ _ 8 [_, _] [_, _] _
      refine ab_ck ok_SF_at rfl rfl (by rw [nI_t (by omega)]; omega) ?_
      show ab_Z m_SF_at _ _ _ 9 [_, _] [_] _
      refine ab_go ok_SF_at 1 rfl ?_
      show ab_Z m_SF_at _ _ _ 11 [_, _] [_] _
      exact ab_rI ok_SF_at rfl (⟨by rw [nI_c (by omega)], rfl⟩)
theorem t_SF_at_56 (i : Int32) (k : Nat) (hk : k < 64) (hi : i = nI k) : ab_T g_SF_at d (0, 0) [.ref 56, .int i] (HA fm X s t) (PI ((s 56) k) (HA fm X s t)) := by
  subst hi
  refine ab_T_of (M := m_SF_at) rfl rfl (Nat.le_of_ble_eq_true rfl) ?_
  show ab_Z m_SF_at _ _ _ 0 [_, _] [] _
  refine ab_go ok_SF_at 1 rfl ?_
  show ab_Z m_SF_at _ _ _ 1 [_, _] [_] _
  refine ab_br ok_SF_at rfl rfl ?_ ?_
  · intro hc
    show ab_Z m_SF_at _ _ _ 10 [_, _] [] _
    exact absurd hc (nI_l0 (by omega))
  · intro hc
    show ab_Z m_SF_at _ _ _ 2 [_, _] [] _
    refine ab_go ok_SF_at 3 rfl ?_
    show ab_Z m_SF_at _ _ _ 5 [_, _] [_, _] _
    refine ab_br ok_SF_at rfl rfl ?_ ?_
    · intro hd
      show ab_Z m_SF_at _ _ _ 10 [_, _] [] _
      exact absurd hd (nI_ge hk (by decide))
    · intro hd
      show ab_Z m_SF_at _ _ _ 6 [_, _] [] _
      refine ab_go ok_SF_at 2 rfl ?_
      show ab_Z m_SF_at _ _ _ 8 [_, _] [_, _] _
      refine ab_ck ok_SF_at rfl rfl (by rw [nI_t (by omega)]; omega) ?_
      show ab_Z m_SF_at _ _ _ 9 [_, _] [_] _
      refine ab_go ok_SF_at 1 rfl ?_
      show ab_Z m_SF_at _ _ _ 11 [_, _] [_] _
      exact ab_rI ok_SF_at rfl (⟨by rw [nI_c (by omega)], rfl⟩)
theorem t_SF_at_9000 (i : Int32) (k : Nat) (hk : k < 6) (hi : i = nI k) : ab_T g_SF_at d (0, 0) [.ref 9000, .int i] (HA fm X s t) (PI (ab_wgI k) (HA fm X s t)) := by
  subst hi
  refine ab_T_of (M := m_SF_at) rfl rfl (Nat.le_of_ble_eq_true rfl) ?_
  show ab_Z m_SF_at _ _ _ 0 [_, _] [] _
  refine ab_go ok_SF_at 1 rfl ?_
  show ab_Z m_SF_at _ _ _ 1 [_, _] [_] _
  refine ab_br ok_SF_at rfl rfl ?_ ?_
  · intro hc
    show ab_Z m_SF_at _ _ _ 10 [_, _] [] _
    exact absurd hc (nI_l0 (by omega))
  · intro hc
    show ab_Z m_SF_at _ _ _ 2 [_, _] [] _
    refine ab_go ok_SF_at 3 rfl ?_
    show ab_Z m_SF_at _ _ _ 5 [_, _] [_, _] _
    refine ab_br ok_SF_at rfl rfl ?_ ?_
    · intro hd
      show ab_Z m_SF_at _ _ _ 10 [_, _] [] _
      exact absurd hd (nI_ge hk (by decide))
    · intro hd
      show ab_Z m_SF_at _ _ _ 6 [_, _] [] _
      refine ab_go ok_SF_at 2 rfl ?_
      show ab_Z m_SF_at _ _ _ 8 [_, _] [_, _] _
      refine ab_ck ok_SF_at rfl rfl (by rw [nI_t (by omega)]; omega) ?_
      show ab_Z m_SF_at _ _ _ 9 [_, _] [_] _
      refine ab_go ok_SF_at 1 rfl ?_
      show ab_Z m_SF_at _ _ _ 11 [_, _] [_] _
      exact ab_rI ok_SF_at rfl (⟨by rw [nI_c (by omega)], rfl⟩)
theorem t_SF_put_11 (i : Int32) (k : Nat) (v : Int32) (hk : k < 40) (hi : i = nI k) : ab_T g_SF_put d (0, 0) [.ref 11, .int i, .int v] (HA fm X s t) (PV (HA fm X (ab_up s 11 k v) t)) := by
  subst hi
  refine ab_T_of (M := m_SF_put) rfl rfl (Nat.le_of_ble_eq_true rfl) ?_
  show ab_Z m_SF_put _ _ _ 0 [_, _, _] [] _
  refine ab_go ok_SF_put 1 rfl ?_
  show ab_Z m_SF_put _ _ _ 1 [_, _, _] [_] _
  refine ab_br ok_SF_put rfl rfl ?_ ?_
  · intro hc
    show ab_Z m_SF_put _ _ _ 10 [_, _, _] [] _
    exact absurd hc (nI_l0 (by omega))
  · intro hc
    show ab_Z m_SF_put _ _ _ 2 [_, _, _] [] _
    refine ab_go ok_SF_put 3 rfl ?_
    show ab_Z m_SF_put _ _ _ 5 [_, _, _] [_, _] _
    refine ab_br ok_SF_put rfl rfl ?_ ?_
    · intro hd
      show ab_Z m_SF_put _ _ _ 10 [_, _, _] [] _
      exact absurd hd (nI_ge hk (by decide))
    · intro hd
      show ab_Z m_SF_put _ _ _ 6 [_, _, _] [] _
      refine ab_go ok_SF_put 3 rfl ?_
      show ab_Z m_SF_put _ _ _ 9 [_, _, _] [_, _, _] _
      refine ab_ck ok_SF_put rfl rfl (by rw [nI_t (by omega)]; omega) ?_
      show ab_Z m_SF_put _ _ _ 10 [_, _, _] [] _
      rw [nI_c (by omega)]
      exact ab_rV ok_SF_put rfl (⟨rfl, rfl⟩)
theorem t_SF_put_13 (i : Int32) (k : Nat) (v : Int32) (hk : k < 3) (hi : i = nI k) : ab_T g_SF_put d (0, 0) [.ref 13, .int i, .int v] (HA fm X s t) (PV (HA fm X (ab_up s 13 k v) t)) := by
  subst hi
  refine ab_T_of (M := m_SF_put) rfl rfl (Nat.le_of_ble_eq_true rfl) ?_
  show ab_Z m_SF_put _ _ _ 0 [_, _, _] [] _
  refine ab_go ok_SF_put 1 rfl ?_
  show ab_Z m_SF_put _ _ _ 1 [_, _, _] [_] _
  refine ab_br ok_SF_put rfl rfl ?_ ?_
  · intro hc
    show ab_Z m_SF_put _ _ _ 10 [_, _, _] [] _
    exact absurd hc (nI_l0 (by omega))
  · intro hc
    show ab_Z m_SF_put _ _ _ 2 [_, _, _] [] _
    refine ab_go ok_SF_put 3 rfl ?_
    show ab_Z m_SF_put _ _ _ 5 [_, _, _] [_, _] _
    refine ab_br ok_SF_put rfl rfl ?_ ?_
    · intro hd
      show ab_Z m_SF_put _ _ _ 10 [_, _, _] [] _
      exact absurd hd (nI_ge hk (by decide))
    · intro hd
      show ab_Z m_SF_put _ _ _ 6 [_, _, _] [] _
      refine ab_go ok_SF_put 3 rfl ?_
      show ab_Z m_SF_put _ _ _ 9 [_, _, _] [_, _, _] _
      refine ab_ck ok_SF_put rfl rfl (by rw [nI_t (by omega)]; omega) ?_
      show ab_Z m_SF_put _ _ _ 10 [_, _, _] [] _
      rw [nI_c (by omega)]
      exact ab_rV ok_SF_put rfl (⟨rfl, rfl⟩)
theorem t_SF_put_47 (i : Int32) (k : Nat) (v : Int32) (hk : k < 320) (hi : i = nI k) : ab_T g_SF_put d (0, 0) [.ref 47, .int i, .int v] (HA fm X s t) (PV (HA fm X (ab_up s 47 k v) t)) := by
  subst hi
  refine ab_T_of (M := m_SF_put) rfl rfl (Nat.le_of_ble_eq_true rfl) ?_
  show ab_Z m_SF_put _ _ _ 0 [_, _, _] [] _
  refine ab_go ok_SF_put 1 rfl ?_
  show ab_Z m_SF_put _ _ _ 1 [_, _, _] [_] _
  refine ab_br ok_SF_put rfl rfl ?_ ?_
  · intro hc
    show ab_Z m_SF_put _ _ _ 10 [_, _, _] [] _
    exact absurd hc (nI_l0 (by omega))
  · intro hc
    show ab_Z m_SF_put _ _ _ 2 [_, _, _] [] _
    refine ab_go ok_SF_put 3 rfl ?_
    show ab_Z m_SF_put _ _ _ 5 [_, _, _] [_, _] _
    refine ab_br ok_SF_put rfl rfl ?_ ?_
    · intro hd
      show ab_Z m_SF_put _ _ _ 10 [_, _, _] [] _
      exact absurd hd (nI_ge hk (by decide))
    · intro hd
      show ab_Z m_SF_put _ _ _ 6 [_, _, _] [] _
      refine ab_go ok_SF_put 3 rfl ?_
      show ab_Z m_SF_put _ _ _ 9 [_, _, _] [_, _, _] _
      refine ab_ck ok_SF_put rfl rfl (by rw [nI_t (by omega)]; omega) ?_
      show ab_Z m_SF_put _ _ _ 10 [_, _, _] [] _
      rw [nI_c (by omega)]
      exact ab_rV ok_SF_put rfl (⟨rfl, rfl⟩)
theorem t_SF_put_48 (i : Int32) (k : Nat) (v : Int32) (hk : k < 192) (hi : i = nI k) : ab_T g_SF_put d (0, 0) [.ref 48, .int i, .int v] (HA fm X s t) (PV (HA fm X (ab_up s 48 k v) t)) := by
  subst hi
  refine ab_T_of (M := m_SF_put) rfl rfl (Nat.le_of_ble_eq_true rfl) ?_
  show ab_Z m_SF_put _ _ _ 0 [_, _, _] [] _
  refine ab_go ok_SF_put 1 rfl ?_
  show ab_Z m_SF_put _ _ _ 1 [_, _, _] [_] _
  refine ab_br ok_SF_put rfl rfl ?_ ?_
  · intro hc
    show ab_Z m_SF_put _ _ _ 10 [_, _, _] [] _
    exact absurd hc (nI_l0 (by omega))
  · intro hc
    show ab_Z m_SF_put _ _ _ 2 [_, _, _] [] _
    refine ab_go ok_SF_put 3 rfl ?_
    show ab_Z m_SF_put _ _ _ 5 [_, _, _] [_, _] _
    refine ab_br ok_SF_put rfl rfl ?_ ?_
    · intro hd
      show ab_Z m_SF_put _ _ _ 10 [_, _, _] [] _
      exact absurd hd (nI_ge hk (by decide))
    · intro hd
      show ab_Z m_SF_put _ _ _ 6 [_, _, _] [] _
      refine ab_go ok_SF_put 3 rfl ?_
      show ab_Z m_SF_put _ _ _ 9 [_, _, _] [_, _, _] _
      refine ab_ck ok_SF_put rfl rfl (by rw [nI_t (by omega)]; omega) ?_
      show ab_Z m_SF_put _ _ _ 10 [_, _, _] [] _
      rw [nI_c (by omega)]
      exact ab_rV ok_SF_put rfl (⟨rfl, rfl⟩)
theorem t_SF_put_49 (i : Int32) (k : Nat) (v : Int32) (hk : k < 64) (hi : i = nI k) : ab_T g_SF_put d (0, 0) [.ref 49, .int i, .int v] (HA fm X s t) (PV (HA fm X (ab_up s 49 k v) t)) := by
  subst hi
  refine ab_T_of (M := m_SF_put) rfl rfl (Nat.le_of_ble_eq_true rfl) ?_
  show ab_Z m_SF_put _ _ _ 0 [_, _, _] [] _
  refine ab_go ok_SF_put 1 rfl ?_
  show ab_Z m_SF_put _ _ _ 1 [_, _, _] [_] _
  refine ab_br ok_SF_put rfl rfl ?_ ?_
  · intro hc
    show ab_Z m_SF_put _ _ _ 10 [_, _, _] [] _
    exact absurd hc (nI_l0 (by omega))
  · intro hc
    show ab_Z m_SF_put _ _ _ 2 [_, _, _] [] _
    refine ab_go ok_SF_put 3 rfl ?_
    show ab_Z m_SF_put _ _ _ 5 [_, _, _] [_, _] _
    refine ab_br ok_SF_put rfl rfl ?_ ?_
    · intro hd
      show ab_Z m_SF_put _ _ _ 10 [_, _, _] [] _
      exact absurd hd (nI_ge hk (by decide))
    · intro hd
      show ab_Z m_SF_put _ _ _ 6 [_, _, _] [] _
      refine ab_go ok_SF_put 3 rfl ?_
      show ab_Z m_SF_put _ _ _ 9 [_, _, _] [_, _, _] _
      refine ab_ck ok_SF_put rfl rfl (by rw [nI_t (by omega)]; omega) ?_
      show ab_Z m_SF_put _ _ _ 10 [_, _, _] [] _
      rw [nI_c (by omega)]
      exact ab_rV ok_SF_put rfl (⟨rfl, rfl⟩)
theorem t_SF_put_50 (i : Int32) (k : Nat) (v : Int32) (hk : k < 64) (hi : i = nI k) : ab_T g_SF_put d (0, 0) [.ref 50, .int i, .int v] (HA fm X s t) (PV (HA fm X (ab_up s 50 k v) t)) := by
  subst hi
  refine ab_T_of (M := m_SF_put) rfl rfl (Nat.le_of_ble_eq_true rfl) ?_
  show ab_Z m_SF_put _ _ _ 0 [_, _, _] [] _
  refine ab_go ok_SF_put 1 rfl ?_
  show ab_Z m_SF_put _ _ _ 1 [_, _, _] [_] _
  refine ab_br ok_SF_put rfl rfl ?_ ?_
  · intro hc
    show ab_Z m_SF_put _ _ _ 10 [_, _, _] [] _
    exact absurd hc (nI_l0 (by omega))
  · intro hc
    show ab_Z m_SF_put _ _ _ 2 [_, _, _] [] _
    refine ab_go ok_SF_put 3 rfl ?_
    show ab_Z m_SF_put _ _ _ 5 [_, _, _] [_, _] _
    refine ab_br ok_SF_put rfl rfl ?_ ?_
    · intro hd
      show ab_Z m_SF_put _ _ _ 10 [_, _, _] [] _
      exact absurd hd (nI_ge hk (by decide))
    · intro hd
      show ab_Z m_SF_put _ _ _ 6 [_, _, _] [] _
      refine ab_go ok_SF_put 3 rfl ?_
      show ab_Z m_SF_put _ _ _ 9 [_, _, _] [_, _, _] _
      refine ab_ck ok_SF_put rfl rfl (by rw [nI_t (by omega)]; omega) ?_
      show ab_Z m_SF_put _ _ _ 10 [_, _, _] [] _
      rw [nI_c (by omega)]
      exact ab_rV ok_SF_put rfl (⟨rfl, rfl⟩)
theorem t_SF_put_53 (i : Int32) (k : Nat) (v : Int32) (hk : k < 6) (hi : i = nI k) : ab_T g_SF_put d (0, 0) [.ref 53, .int i, .int v] (HA fm X s t) (PV (HA fm X (ab_up s 53 k v) t)) := by
  subst hi
  refine ab_T_of (M := m_SF_put) rfl rfl (Nat.le_of_ble_eq_true rfl) ?_
  show ab_Z m_SF_put _ _ _ 0 [_, _, _] [] _
  refine ab_go ok_SF_put 1 rfl ?_
  show ab_Z m_SF_put _ _ _ 1 [_, _, _] [_] _
  refine ab_br ok_SF_put rfl rfl ?_ ?_
  · intro hc
    show ab_Z m_SF_put _ _ _ 10 [_, _, _] [] _
    exact absurd hc (nI_l0 (by omega))
  · intro hc
    show ab_Z m_SF_put _ _ _ 2 [_, _, _] [] _
    refine ab_go ok_SF_put 3 rfl ?_
    show ab_Z m_SF_put _ _ _ 5 [_, _, _] [_, _] _
    refine ab_br ok_SF_put rfl rfl ?_ ?_
    · intro hd
      show ab_Z m_SF_put _ _ _ 10 [_, _, _] [] _
      exact absurd hd (nI_ge hk (by decide))
    · intro hd
      show ab_Z m_SF_put _ _ _ 6 [_, _, _] [] _
      refine ab_go ok_SF_put 3 rfl ?_
      show ab_Z m_SF_put _ _ _ 9 [_, _, _] [_, _, _] _
      refine ab_ck ok_SF_put rfl rfl (by rw [nI_t (by omega)]; omega) ?_
      show ab_Z m_SF_put _ _ _ 10 [_, _, _] [] _
      rw [nI_c (by omega)]
      exact ab_rV ok_SF_put rfl (⟨rfl, rfl⟩)
theorem t_SF_put_54 (i : Int32) (k : Nat) (v : Int32) (hk : k < 224) (hi : i = nI k) : ab_T g_SF_put d (0, 0) [.ref 54, .int i, .int v] (HA fm X s t) (PV (HA fm X (ab_up s 54 k v) t)) := by
  subst hi
  refine ab_T_of (M := m_SF_put) rfl rfl (Nat.le_of_ble_eq_true rfl) ?_
  show ab_Z m_SF_put _ _ _ 0 [_, _, _] [] _
  refine ab_go ok_SF_put 1 rfl ?_
  show ab_Z m_SF_put _ _ _ 1 [_, _, _] [_] _
  refine ab_br ok_SF_put rfl rfl ?_ ?_
  · intro hc
    show ab_Z m_SF_put _ _ _ 10 [_, _, _] [] _
    exact absurd hc (nI_l0 (by omega))
  · intro hc
    show ab_Z m_SF_put _ _ _ 2 [_, _, _] [] _
    refine ab_go ok_SF_put 3 rfl ?_
    show ab_Z m_SF_put _ _ _ 5 [_, _, _] [_, _] _
    refine ab_br ok_SF_put rfl rfl ?_ ?_
    · intro hd
      show ab_Z m_SF_put _ _ _ 10 [_, _, _] [] _
      exact absurd hd (nI_ge hk (by decide))
    · intro hd
      show ab_Z m_SF_put _ _ _ 6 [_, _, _] [] _
      refine ab_go ok_SF_put 3 rfl ?_
      show ab_Z m_SF_put _ _ _ 9 [_, _, _] [_, _, _] _
      refine ab_ck ok_SF_put rfl rfl (by rw [nI_t (by omega)]; omega) ?_
      show ab_Z m_SF_put _ _ _ 10 [_, _, _] [] _
      rw [nI_c (by omega)]
      exact ab_rV ok_SF_put rfl (⟨rfl, rfl⟩)
theorem t_SF_put_55 (i : Int32) (k : Nat) (v : Int32) (hk : k < 6) (hi : i = nI k) : ab_T g_SF_put d (0, 0) [.ref 55, .int i, .int v] (HA fm X s t) (PV (HA fm X (ab_up s 55 k v) t)) := by
  subst hi
  refine ab_T_of (M := m_SF_put) rfl rfl (Nat.le_of_ble_eq_true rfl) ?_
  show ab_Z m_SF_put _ _ _ 0 [_, _, _] [] _
  refine ab_go ok_SF_put 1 rfl ?_
  show ab_Z m_SF_put _ _ _ 1 [_, _, _] [_] _
  refine ab_br ok_SF_put rfl rfl ?_ ?_
  · intro hc
    show ab_Z m_SF_put _ _ _ 10 [_, _, _] [] _
    exact absurd hc (nI_l0 (by omega))
  · intro hc
    show ab_Z m_SF_put _ _ _ 2 [_, _, _] [] _
    refine ab_go ok_SF_put 3 rfl ?_
    show ab_Z m_SF_put _ _ _ 5 [_, _, _] [_, _] _
    refine ab_br ok_SF_put rfl rfl ?_ ?_
    · intro hd
      show ab_Z m_SF_put _ _ _ 10 [_, _, _] [] _
      exact absurd hd (nI_ge hk (by decide))
    · intro hd
      show ab_Z m_SF_put _ _ _ 6 [_, _, _] [] _
      refine ab_go ok_SF_put 3 rfl ?_
      show ab_Z m_SF_put _ _ _ 9 [_, _, _] [_, _, _] _
      refine ab_ck ok_SF_put rfl rfl (by rw [nI_t (by omega)]; omega) ?_
      show ab_Z m_SF_put _ _ _ 10 [_, _, _] [] _
      rw [nI_c (by omega)]
      exact ab_rV ok_SF_put rfl (⟨rfl, rfl⟩)
theorem t_SF_put_56 (i : Int32) (k : Nat) (v : Int32) (hk : k < 64) (hi : i = nI k) : ab_T g_SF_put d (0, 0) [.ref 56, .int i, .int v] (HA fm X s t) (PV (HA fm X (ab_up s 56 k v) t)) := by
  subst hi
  refine ab_T_of (M := m_SF_put) rfl rfl (Nat.le_of_ble_eq_true rfl) ?_
  show ab_Z m_SF_put _ _ _ 0 [_, _, _] [] _
  refine ab_go ok_SF_put 1 rfl ?_
  show ab_Z m_SF_put _ _ _ 1 [_, _, _] [_] _
  refine ab_br ok_SF_put rfl rfl ?_ ?_
  · intro hc
    show ab_Z m_SF_put _ _ _ 10 [_, _, _] [] _
    exact absurd hc (nI_l0 (by omega))
  · intro hc
    show ab_Z m_SF_put _ _ _ 2 [_, _, _] [] _
    refine ab_go ok_SF_put 3 rfl ?_
    show ab_Z m_SF_put _ _ _ 5 [_, _, _] [_, _] _
    refine ab_br ok_SF_put rfl rfl ?_ ?_
    · intro hd
      show ab_Z m_SF_put _ _ _ 10 [_, _, _] [] _
      exact absurd hd (nI_ge hk (by decide))
    · intro hd
      show ab_Z m_SF_put _ _ _ 6 [_, _, _] [] _
      refine ab_go ok_SF_put 3 rfl ?_
      show ab_Z m_SF_put _ _ _ 9 [_, _, _] [_, _, _] _
      refine ab_ck ok_SF_put rfl rfl (by rw [nI_t (by omega)]; omega) ?_
      show ab_Z m_SF_put _ _ _ 10 [_, _, _] [] _
      rw [nI_c (by omega)]
      exact ab_rV ok_SF_put rfl (⟨rfl, rfl⟩)
theorem t_SF_put_4 (i : Int32) (k : Nat) (v : Int32) (hk : k < 401) (hi : i = nI k) : ab_T g_SF_put d (0, 0) [.ref 4, .int i, .int v] (HA fm X s t) (PV (HA fm X (ab_up s 4 k v) t)) := by
  subst hi
  refine ab_T_of (M := m_SF_put) rfl rfl (Nat.le_of_ble_eq_true rfl) ?_
  show ab_Z m_SF_put _ _ _ 0 [_, _, _] [] _
  refine ab_go ok_SF_put 1 rfl ?_
  show ab_Z m_SF_put _ _ _ 1 [_, _, _] [_] _
  refine ab_br ok_SF_put rfl rfl ?_ ?_
  · intro hc
    show ab_Z m_SF_put _ _ _ 10 [_, _, _] [] _
    exact absurd hc (nI_l0 (by omega))
  · intro hc
    show ab_Z m_SF_put _ _ _ 2 [_, _, _] [] _
    refine ab_go ok_SF_put 3 rfl ?_
    show ab_Z m_SF_put _ _ _ 5 [_, _, _] [_, _] _
    refine ab_br ok_SF_put rfl rfl ?_ ?_
    · intro hd
      show ab_Z m_SF_put _ _ _ 10 [_, _, _] [] _
      exact absurd hd (nI_ge hk (by decide))
    · intro hd
      show ab_Z m_SF_put _ _ _ 6 [_, _, _] [] _
      refine ab_go ok_SF_put 3 rfl ?_
      show ab_Z m_SF_put _ _ _ 9 [_, _, _] [_, _, _] _
      refine ab_ck ok_SF_put rfl rfl (by rw [nI_t (by omega)]; omega) ?_
      show ab_Z m_SF_put _ _ _ 10 [_, _, _] [] _
      rw [nI_c (by omega)]
      exact ab_rV ok_SF_put rfl (⟨rfl, rfl⟩)
theorem t_SF_put_5 (i : Int32) (k : Nat) (v : Int32) (hk : k < 401) (hi : i = nI k) : ab_T g_SF_put d (0, 0) [.ref 5, .int i, .int v] (HA fm X s t) (PV (HA fm X (ab_up s 5 k v) t)) := by
  subst hi
  refine ab_T_of (M := m_SF_put) rfl rfl (Nat.le_of_ble_eq_true rfl) ?_
  show ab_Z m_SF_put _ _ _ 0 [_, _, _] [] _
  refine ab_go ok_SF_put 1 rfl ?_
  show ab_Z m_SF_put _ _ _ 1 [_, _, _] [_] _
  refine ab_br ok_SF_put rfl rfl ?_ ?_
  · intro hc
    show ab_Z m_SF_put _ _ _ 10 [_, _, _] [] _
    exact absurd hc (nI_l0 (by omega))
  · intro hc
    show ab_Z m_SF_put _ _ _ 2 [_, _, _] [] _
    refine ab_go ok_SF_put 3 rfl ?_
    show ab_Z m_SF_put _ _ _ 5 [_, _, _] [_, _] _
    refine ab_br ok_SF_put rfl rfl ?_ ?_
    · intro hd
      show ab_Z m_SF_put _ _ _ 10 [_, _, _] [] _
      exact absurd hd (nI_ge hk (by decide))
    · intro hd
      show ab_Z m_SF_put _ _ _ 6 [_, _, _] [] _
      refine ab_go ok_SF_put 3 rfl ?_
      show ab_Z m_SF_put _ _ _ 9 [_, _, _] [_, _, _] _
      refine ab_ck ok_SF_put rfl rfl (by rw [nI_t (by omega)]; omega) ?_
      show ab_Z m_SF_put _ _ _ 10 [_, _, _] [] _
      rw [nI_c (by omega)]
      exact ab_rV ok_SF_put rfl (⟨rfl, rfl⟩)
theorem t_SF_put_59 (i : Int32) (k : Nat) (v : Int32) (hk : k < 5) (hi : i = nI k) : ab_T g_SF_put d (0, 0) [.ref 59, .int i, .int v] (HA fm X s t) (PV (HA fm X (ab_up s 59 k v) t)) := by
  subst hi
  refine ab_T_of (M := m_SF_put) rfl rfl (Nat.le_of_ble_eq_true rfl) ?_
  show ab_Z m_SF_put _ _ _ 0 [_, _, _] [] _
  refine ab_go ok_SF_put 1 rfl ?_
  show ab_Z m_SF_put _ _ _ 1 [_, _, _] [_] _
  refine ab_br ok_SF_put rfl rfl ?_ ?_
  · intro hc
    show ab_Z m_SF_put _ _ _ 10 [_, _, _] [] _
    exact absurd hc (nI_l0 (by omega))
  · intro hc
    show ab_Z m_SF_put _ _ _ 2 [_, _, _] [] _
    refine ab_go ok_SF_put 3 rfl ?_
    show ab_Z m_SF_put _ _ _ 5 [_, _, _] [_, _] _
    refine ab_br ok_SF_put rfl rfl ?_ ?_
    · intro hd
      show ab_Z m_SF_put _ _ _ 10 [_, _, _] [] _
      exact absurd hd (nI_ge hk (by decide))
    · intro hd
      show ab_Z m_SF_put _ _ _ 6 [_, _, _] [] _
      refine ab_go ok_SF_put 3 rfl ?_
      show ab_Z m_SF_put _ _ _ 9 [_, _, _] [_, _, _] _
      refine ab_ck ok_SF_put rfl rfl (by rw [nI_t (by omega)]; omega) ?_
      show ab_Z m_SF_put _ _ _ 10 [_, _, _] [] _
      rw [nI_c (by omega)]
      exact ab_rV ok_SF_put rfl (⟨rfl, rfl⟩)
theorem t_SF_put_60 (i : Int32) (k : Nat) (v : Int32) (hk : k < 15) (hi : i = nI k) : ab_T g_SF_put d (0, 0) [.ref 60, .int i, .int v] (HA fm X s t) (PV (HA fm X (ab_up s 60 k v) t)) := by
  subst hi
  refine ab_T_of (M := m_SF_put) rfl rfl (Nat.le_of_ble_eq_true rfl) ?_
  show ab_Z m_SF_put _ _ _ 0 [_, _, _] [] _
  refine ab_go ok_SF_put 1 rfl ?_
  show ab_Z m_SF_put _ _ _ 1 [_, _, _] [_] _
  refine ab_br ok_SF_put rfl rfl ?_ ?_
  · intro hc
    show ab_Z m_SF_put _ _ _ 10 [_, _, _] [] _
    exact absurd hc (nI_l0 (by omega))
  · intro hc
    show ab_Z m_SF_put _ _ _ 2 [_, _, _] [] _
    refine ab_go ok_SF_put 3 rfl ?_
    show ab_Z m_SF_put _ _ _ 5 [_, _, _] [_, _] _
    refine ab_br ok_SF_put rfl rfl ?_ ?_
    · intro hd
      show ab_Z m_SF_put _ _ _ 10 [_, _, _] [] _
      exact absurd hd (nI_ge hk (by decide))
    · intro hd
      show ab_Z m_SF_put _ _ _ 6 [_, _, _] [] _
      refine ab_go ok_SF_put 3 rfl ?_
      show ab_Z m_SF_put _ _ _ 9 [_, _, _] [_, _, _] _
      refine ab_ck ok_SF_put rfl rfl (by rw [nI_t (by omega)]; omega) ?_
      show ab_Z m_SF_put _ _ _ 10 [_, _, _] [] _
      rw [nI_c (by omega)]
      exact ab_rV ok_SF_put rfl (⟨rfl, rfl⟩)
theorem t_SF_put_62 (i : Int32) (k : Nat) (v : Int32) (hk : k < 6) (hi : i = nI k) : ab_T g_SF_put d (0, 0) [.ref 62, .int i, .int v] (HA fm X s t) (PV (HA fm X (ab_up s 62 k v) t)) := by
  subst hi
  refine ab_T_of (M := m_SF_put) rfl rfl (Nat.le_of_ble_eq_true rfl) ?_
  show ab_Z m_SF_put _ _ _ 0 [_, _, _] [] _
  refine ab_go ok_SF_put 1 rfl ?_
  show ab_Z m_SF_put _ _ _ 1 [_, _, _] [_] _
  refine ab_br ok_SF_put rfl rfl ?_ ?_
  · intro hc
    show ab_Z m_SF_put _ _ _ 10 [_, _, _] [] _
    exact absurd hc (nI_l0 (by omega))
  · intro hc
    show ab_Z m_SF_put _ _ _ 2 [_, _, _] [] _
    refine ab_go ok_SF_put 3 rfl ?_
    show ab_Z m_SF_put _ _ _ 5 [_, _, _] [_, _] _
    refine ab_br ok_SF_put rfl rfl ?_ ?_
    · intro hd
      show ab_Z m_SF_put _ _ _ 10 [_, _, _] [] _
      exact absurd hd (nI_ge hk (by decide))
    · intro hd
      show ab_Z m_SF_put _ _ _ 6 [_, _, _] [] _
      refine ab_go ok_SF_put 3 rfl ?_
      show ab_Z m_SF_put _ _ _ 9 [_, _, _] [_, _, _] _
      refine ab_ck ok_SF_put rfl rfl (by rw [nI_t (by omega)]; omega) ?_
      show ab_Z m_SF_put _ _ _ 10 [_, _, _] [] _
      rw [nI_c (by omega)]
      exact ab_rV ok_SF_put rfl (⟨rfl, rfl⟩)
theorem t_SF_put_63 (i : Int32) (k : Nat) (v : Int32) (hk : k < 18) (hi : i = nI k) : ab_T g_SF_put d (0, 0) [.ref 63, .int i, .int v] (HA fm X s t) (PV (HA fm X (ab_up s 63 k v) t)) := by
  subst hi
  refine ab_T_of (M := m_SF_put) rfl rfl (Nat.le_of_ble_eq_true rfl) ?_
  show ab_Z m_SF_put _ _ _ 0 [_, _, _] [] _
  refine ab_go ok_SF_put 1 rfl ?_
  show ab_Z m_SF_put _ _ _ 1 [_, _, _] [_] _
  refine ab_br ok_SF_put rfl rfl ?_ ?_
  · intro hc
    show ab_Z m_SF_put _ _ _ 10 [_, _, _] [] _
    exact absurd hc (nI_l0 (by omega))
  · intro hc
    show ab_Z m_SF_put _ _ _ 2 [_, _, _] [] _
    refine ab_go ok_SF_put 3 rfl ?_
    show ab_Z m_SF_put _ _ _ 5 [_, _, _] [_, _] _
    refine ab_br ok_SF_put rfl rfl ?_ ?_
    · intro hd
      show ab_Z m_SF_put _ _ _ 10 [_, _, _] [] _
      exact absurd hd (nI_ge hk (by decide))
    · intro hd
      show ab_Z m_SF_put _ _ _ 6 [_, _, _] [] _
      refine ab_go ok_SF_put 3 rfl ?_
      show ab_Z m_SF_put _ _ _ 9 [_, _, _] [_, _, _] _
      refine ab_ck ok_SF_put rfl rfl (by rw [nI_t (by omega)]; omega) ?_
      show ab_Z m_SF_put _ _ _ 10 [_, _, _] [] _
      rw [nI_c (by omega)]
      exact ab_rV ok_SF_put rfl (⟨rfl, rfl⟩)
theorem t_SF_put_64 (i : Int32) (k : Nat) (v : Int32) (hk : k < 12) (hi : i = nI k) : ab_T g_SF_put d (0, 0) [.ref 64, .int i, .int v] (HA fm X s t) (PV (HA fm X (ab_up s 64 k v) t)) := by
  subst hi
  refine ab_T_of (M := m_SF_put) rfl rfl (Nat.le_of_ble_eq_true rfl) ?_
  show ab_Z m_SF_put _ _ _ 0 [_, _, _] [] _
  refine ab_go ok_SF_put 1 rfl ?_
  show ab_Z m_SF_put _ _ _ 1 [_, _, _] [_] _
  refine ab_br ok_SF_put rfl rfl ?_ ?_
  · intro hc
    show ab_Z m_SF_put _ _ _ 10 [_, _, _] [] _
    exact absurd hc (nI_l0 (by omega))
  · intro hc
    show ab_Z m_SF_put _ _ _ 2 [_, _, _] [] _
    refine ab_go ok_SF_put 3 rfl ?_
    show ab_Z m_SF_put _ _ _ 5 [_, _, _] [_, _] _
    refine ab_br ok_SF_put rfl rfl ?_ ?_
    · intro hd
      show ab_Z m_SF_put _ _ _ 10 [_, _, _] [] _
      exact absurd hd (nI_ge hk (by decide))
    · intro hd
      show ab_Z m_SF_put _ _ _ 6 [_, _, _] [] _
      refine ab_go ok_SF_put 3 rfl ?_
      show ab_Z m_SF_put _ _ _ 9 [_, _, _] [_, _, _] _
      refine ab_ck ok_SF_put rfl rfl (by rw [nI_t (by omega)]; omega) ?_
      show ab_Z m_SF_put _ _ _ 10 [_, _, _] [] _
      rw [nI_c (by omega)]
      exact ab_rV ok_SF_put rfl (⟨rfl, rfl⟩)
theorem t_JA_fill_12 (v : Int32) : ab_T g_JA_fill d (0, 0) [.ref 12, .int v] (HA fm X s t) (PV (HA fm X (ab_ro s 12 (fun j => if j < 9 then v else s 12 j)) t)) := by
  refine ab_T_of (M := m_JA_fill) rfl rfl (Nat.le_of_ble_eq_true rfl) ?_
  show ab_Z m_JA_fill _ _ _ 0 [_, _, _, _] [] _
  refine ab_go ok_JA_fill 5 rfl ?_
  show ab_Z m_JA_fill _ _ _ 5 [_, _, _, _] [] _
  have e0 : s = ab_ro s 12 (fun j => if j < 0 then v else s 12 j) := by
    funext c j
    unfold ab_ro
    by_cases hc : c = 12
    · simp [hc]
    · simp [hc]
  refine Eq.mpr (congrArg (fun z => ab_Z m_JA_fill d (0, 0) _ 5 [some (.ref 12), some (.int v), some (.int 0), some (.int (Int32.ofNat 9))] [] (HA fm X z t)) e0) ?_
  refine lp_dn 9 (fun k => ab_Z m_JA_fill d (0, 0) _ 5 [some (.ref 12), some (.int v), some (.int (nI k)), some (.int (Int32.ofNat 9))] [] (HA fm X (ab_ro s 12 (fun j => if j < k then v else s 12 j)) t)) ?_ ?_
  · refine ab_go ok_JA_fill 2 rfl ?_
    show ab_Z m_JA_fill _ _ _ 7 [_, _, _, _] [_, _] _
    refine ab_go ok_JA_fill 1 rfl ?_
    show ab_Z m_JA_fill _ _ _ 14 [_, _, _, _] [] _
    exact ab_rV ok_JA_fill rfl (⟨rfl, rfl⟩)
  · intro k hk ih
    refine ab_go ok_JA_fill 2 rfl ?_
    show ab_Z m_JA_fill _ _ _ 7 [_, _, _, _] [_, _] _
    refine ab_br ok_JA_fill rfl rfl ?_ ?_
    · intro hc
      show ab_Z m_JA_fill _ _ _ 14 [_, _, _, _] [] _
      exact absurd hc (lp_in (N := 9) (by decide) hk)
    · intro hc
      show ab_Z m_JA_fill _ _ _ 8 [_, _, _, _] [] _
      refine ab_go ok_JA_fill 3 rfl ?_
      show ab_Z m_JA_fill _ _ _ 11 [_, _, _, _] [_, _, _] _
      refine ab_ck ok_JA_fill rfl rfl (by rw [nI_t (by omega)]; omega) ?_
      show ab_Z m_JA_fill _ _ _ 12 [_, _, _, _] [] _
      refine ab_go ok_JA_fill 2 rfl ?_
      show ab_Z m_JA_fill _ _ _ 5 [_, _, _, _] [] _
      have e : ab_up (ab_ro s 12 (fun j => if j < k then v else s 12 j)) 12 k v = ab_ro s 12 (fun j => if j < k + 1 then v else s 12 j) := by
        funext c j
        unfold ab_up ab_ro
        by_cases hc : c = 12
        · simp only [hc, if_true]
          by_cases h1 : j = k
          · simp [h1]
          · simp only [h1, if_false]
            by_cases h2 : j < k
            · rw [if_pos h2, if_pos (by omega)]
            · rw [if_neg h2, if_neg (by omega)]
        · simp [hc]
      rw [nI_c (by omega), e, ← nI_succ]
      exact ih
end

