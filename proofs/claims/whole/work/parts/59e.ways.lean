/-! ways: plans as numbers -/
def wyW (p : Nat → Bool) (base : Nat) (dg : Nat → Nat) : Nat → Nat
  | 0 => 0
  | e + 1 => if p e = true then wyW p base dg e * base + dg e else wyW p base dg e
def wyC (D : Nat → Nat) : Nat → Nat
  | 0 => 0
  | e + 1 => wyC D e * 6 + D e
def wyG (p : Nat → Bool) (base om w : Nat) : Nat → Nat := fun e => w / base ^ (om - 1 - cntN p e) % base
theorem wyW_cg {p : Nat → Bool} {base : Nat} {f g : Nat → Nat} : ∀ {n : Nat}, (∀ e, e < n → p e = true → f e = g e) → wyW p base f n = wyW p base g n
  | 0, _ => rfl
  | n + 1, h => by
    rw [wyW, wyW, wyW_cg (fun e he => h e (by omega))]
    by_cases hp : p n = true
    · rw [if_pos hp, if_pos hp, h n (by omega) hp]
    · rw [if_neg hp, if_neg hp]
theorem wy_pre {p : Nat → Bool} {base om w n : Nat} (hom : om = cntN p n) (hw : w < base ^ om) : ∀ e, e ≤ n → wyW p base (wyG p base om w) e = w / base ^ (om - cntN p e)
  | 0, _ => by rw [wyW, cntN, Nat.sub_zero, Nat.div_eq_of_lt hw]
  | e + 1, he => by
    have hc := cnt_mono p he
    rw [wyW, wy_pre hom hw e (by omega)]
    rw [cntN] at hc ⊢
    by_cases hp : p e = true
    · rw [if_pos hp, if_pos hp]
      rw [if_pos hp] at hc
      unfold wyG
      rw [show om - cntN p e = om - 1 - cntN p e + 1 by omega, Nat.pow_succ, ← Nat.div_div_eq_div_mul, Nat.div_add_mod', show om - (cntN p e + 1) = om - 1 - cntN p e by omega]
    · rw [if_neg hp, if_neg hp, Nat.add_zero]
theorem wy_at {p : Nat → Bool} {base om w n : Nat} (hom : om = cntN p n) (hw : w < base ^ om) : wyW p base (wyG p base om w) n = w := by
  rw [wy_pre hom hw n (Nat.le_refl _), ← hom, Nat.sub_self, Nat.pow_zero, Nat.div_one]
theorem wy_lt {p : Nat → Bool} {base : Nat} {dg : Nat → Nat} (hd : ∀ e, p e = true → dg e < base) : ∀ e, wyW p base dg e < base ^ cntN p e
  | 0 => by rw [wyW, cntN, Nat.pow_zero]; omega
  | e + 1 => by
    have ih := wy_lt hd e
    rw [wyW, cntN]
    by_cases hp : p e = true
    · rw [if_pos hp, if_pos hp, Nat.pow_succ]
      have h1 := hd e hp
      have h2 := Nat.mul_le_mul_right base (show wyW p base dg e + 1 ≤ base ^ cntN p e from ih)
      rw [Nat.add_mul, Nat.one_mul] at h2
      omega
    · rw [if_neg hp, if_neg hp, Nat.add_zero]; exact ih
theorem wy_suf {p : Nat → Bool} {base n : Nat} {dg : Nat → Nat} (hd : ∀ e, p e = true → dg e < base) : ∀ k e, e + k = n → wyW p base dg n / base ^ (cntN p n - cntN p e) = wyW p base dg e
  | 0, e, h => by
    rw [← h, Nat.add_zero, Nat.sub_self, Nat.pow_zero, Nat.div_one]
  | k + 1, e, h => by
    have ih := wy_suf (n := n) hd k (e + 1) (by omega)
    have hc := cnt_mono p (show e + 1 ≤ n by omega)
    rw [cntN] at ih hc
    rw [wyW] at ih
    by_cases hp : p e = true
    · rw [if_pos hp] at ih hc
      rw [if_pos hp] at ih
      have h1 := hd e hp
      rw [show cntN p n - cntN p e = cntN p n - (cntN p e + 1) + 1 by omega, Nat.pow_succ, ← Nat.div_div_eq_div_mul, ih, Nat.add_comm, Nat.mul_comm, Nat.add_mul_div_left _ _ (show 0 < base by omega), Nat.div_eq_of_lt h1, Nat.zero_add]
    · rw [if_neg hp, Nat.add_zero, if_neg hp] at ih
      exact ih
theorem wy_sur {p : Nat → Bool} {base n : Nat} {dg : Nat → Nat} (hd : ∀ e, p e = true → dg e < base) {e : Nat} (he : e < n) (hp : p e = true) : wyG p base (cntN p n) (wyW p base dg n) e = dg e := by
  have h := wy_suf (n := n) hd (n - (e + 1)) (e + 1) (by omega)
  unfold wyG
  rw [show cntN p n - 1 - cntN p e = cntN p n - cntN p (e + 1) from by rw [show cntN p (e + 1) = cntN p e + 1 from by rw [cntN, hp]; rfl]; omega, h, wyW, if_pos hp, Nat.mul_comm, Nat.mul_add_mod, Nat.mod_eq_of_lt (hd e hp)]
theorem wy_ord {p : Nat → Bool} {base : Nat} {D D' : Nat → Nat} (h6 : base ≤ 6) (h1 : ∀ e, p e = true → D e < base) (h2 : ∀ e, p e = true → D' e < base) (z1 : ∀ e, p e = false → D e = 0) (z2 : ∀ e, p e = false → D' e = 0) : ∀ e, (wyW p base D e < wyW p base D' e → wyC D e < wyC D' e) ∧ (wyW p base D e = wyW p base D' e → wyC D e = wyC D' e)
  | 0 => ⟨fun h => absurd h (Nat.lt_irrefl _), fun _ => rfl⟩
  | e + 1 => by
    obtain ⟨a, b⟩ := wy_ord h6 h1 h2 z1 z2 e
    rw [wyW, wyW, wyC, wyC]
    by_cases hp : p e = true
    · rw [if_pos hp, if_pos hp]
      have q1 := h1 e hp
      have q2 := h2 e hp
      rcases Nat.lt_trichotomy (wyW p base D e) (wyW p base D' e) with h | h | h
      · have h3 := a h
        have h4 := Nat.mul_le_mul_right base (show wyW p base D e + 1 ≤ wyW p base D' e from h)
        rw [Nat.add_mul, Nat.one_mul] at h4
        exact ⟨fun _ => by omega, fun z => by omega⟩
      · have h3 := b h
        rw [h]
        exact ⟨fun z => by omega, fun z => by omega⟩
      · have h4 := Nat.mul_le_mul_right base (show wyW p base D' e + 1 ≤ wyW p base D e from h)
        rw [Nat.add_mul, Nat.one_mul] at h4
        exact ⟨fun z => by omega, fun z => by omega⟩
    · have hf : p e = false := Bool.not_eq_true _ ▸ hp
      rw [if_neg hp, if_neg hp, z1 e hf, z2 e hf]
      exact ⟨fun z => by have := a z; omega, fun z => by have := b z; omega⟩
def wgZ : Nat → Int
  | 0 => 7776 | 1 => 1296 | 2 => 216 | 3 => 36 | 4 => 6 | _ => 1
theorem wg_Z : ∀ e, (ab_wgI e).toInt = wgZ e ∧ 0 ≤ wgZ e ∧ wgZ e ≤ 7776
  | 0 | 1 | 2 | 3 | 4 => by decide
  | n + 5 => by
    rw [show ab_wgI (n + 5) = 1 from rfl, show wgZ (n + 5) = 1 from rfl]
    decide
theorem wyC_6 (D : Nat → Nat) : (wyC D 6 : Int) = sumZ (fun e => (D e : Int) * wgZ e) 6 := by
  simp only [wyC, sumZ, wgZ]
  omega
theorem wyC_dg {D : Nat → Nat} (h : ∀ e, D e < 6) : wyC D 6 < 46656 ∧ ∀ e, e < 6 → (nI (wyC D 6)) / ab_wgI e - (nI (wyC D 6)) / ab_wgI e / 6 * 6 = nI (D e) := by
  have h0 := h 0
  have h1 := h 1
  have h2 := h 2
  have h3 := h 3
  have h4 := h 4
  have h5 := h 5
  have hlt : wyC D 6 < 46656 := by simp only [wyC]; omega
  refine ⟨hlt, fun e he => ?_⟩
  have key : ∀ m : Nat, 0 < m → m < 10000 → ab_wgI e = nI m → wyC D 6 / m % 6 = D e → (nI (wyC D 6)) / ab_wgI e - (nI (wyC D 6)) / ab_wgI e / 6 * 6 = nI (D e) := by
    intro m hm hm2 hw hd
    rw [hw, pk_div (by omega) hm (by omega)]
    have : wyC D 6 / m ≤ wyC D 6 := Nat.div_le_self _ _
    rw [show (6 : Int32) = nI 6 from rfl, pk_rem (by omega) (by decide) (by decide), hd]
  rcases (by omega : e = 0 ∨ e = 1 ∨ e = 2 ∨ e = 3 ∨ e = 4 ∨ e = 5) with rfl | rfl | rfl | rfl | rfl | rfl
  · exact key 7776 (by decide) (by decide) rfl (by simp only [wyC]; omega)
  · exact key 1296 (by decide) (by decide) rfl (by simp only [wyC]; omega)
  · exact key 216 (by decide) (by decide) rfl (by simp only [wyC]; omega)
  · exact key 36 (by decide) (by decide) rfl (by simp only [wyC]; omega)
  · exact key 6 (by decide) (by decide) rfl (by simp only [wyC]; omega)
  · exact key 1 (by decide) (by decide) rfl (by simp only [wyC]; omega)
theorem i_mulI {x y : Int32} (h1 : -2147483648 ≤ x.toInt * y.toInt) (h2 : x.toInt * y.toInt < 2147483648) : (x * y).toInt = x.toInt * y.toInt := by
  rw [Int32.toInt_mul]; exact i_bm h1 h2
theorem i_negI {x : Int32} (h1 : -2147483648 < x.toInt) : (-x).toInt = -x.toInt := by
  have := i_rng x
  rw [Int32.toInt_neg]; exact i_bm (by omega) (by omega)
theorem xor_nn (y : Int32) : (0 ≤ y ^^^ 46656) ↔ 0 ≤ y.toInt := by
  rw [Int32.le_iff_toInt_le]
  have h1 : ∀ z : Int32, 0 ≤ z.toInt ↔ z.toBitVec.msb = false := fun z => by
    have h2 := BitVec.msb_eq_toInt (x := z.toBitVec)
    have h3 : z.toInt = z.toBitVec.toInt := rfl
    rw [h2, h3]
    simp
  show (0 : Int) ≤ _ ↔ _
  rw [h1, h1, Int32.toBitVec_xor, BitVec.msb_xor, show (46656 : Int32).toBitVec.msb = false from by decide, Bool.xor_false]
theorem bb_at {x : Int32} {B C : Int} (hx : x.toInt = 46656 * B - C) (hB : 0 ≤ B) (hB2 : B ≤ 1000) (hC : 0 ≤ C) (hC2 : C < 46656) : (bbF x).toInt = B := by
  have h46 : (46656 : Int32).toInt = 46656 := by decide
  have hsg : Int.sign 46656 = 1 := by decide
  have hn : (-x).toInt = C - 46656 * B := by rw [i_negI (by omega), hx]; omega
  have hd : ((-x) / 46656).toInt = (C - 46656 * B).tdiv 46656 := by
    rw [Int32.toInt_div, hn, h46]
    rw [Int.tdiv_eq_ediv]
    exact i_bm (by split <;> omega) (by split <;> omega)
  have hf : (fdvF (-x)).toInt = -B := by
    unfold fdvF
    rcases Int.lt_or_eq_of_le hB with hB0 | hB0
    · rw [if_neg (fun z => by have := (xor_nn _).mp z; omega)]
      have hd' : ((-x) / 46656).toInt = if C = 0 then -B else -B + 1 := by
        rw [hd, Int.tdiv_eq_ediv]
        split
        · split <;> omega
        · split <;> omega
      have hmul : ((-x) / 46656 * 46656).toInt = ((-x) / 46656).toInt * 46656 := by
        rw [i_mulI (by rw [h46, hd']; split <;> omega) (by rw [h46, hd']; split <;> omega), h46]
      by_cases hC0 : C = 0
      · rw [if_pos hC0] at hd'
        rw [if_pos (Int32.toInt_inj.mp (by rw [hmul, hd', hn]; omega)), hd']
      · rw [if_neg hC0] at hd'
        rw [if_neg (fun z => by have := congrArg Int32.toInt z; rw [hmul, hd', hn] at this; omega), i_subI (by rw [hd']; show _ ≤ _ - (1 : Int); omega) (by rw [hd']; show _ - (1 : Int) < _; omega), hd']
        show _ - (1 : Int) = _
        omega
    · rw [if_pos ((xor_nn _).mpr (by omega)), hd, Int.tdiv_eq_ediv]
      split <;> omega
  unfold bbF
  rw [i_negI (by omega), hf]
  omega
theorem slr_at {x : Int32} {B : Int} {D : Nat → Nat} (hD : ∀ e, D e < 6) (hx : x.toInt = 46656 * B - wyC D 6) (hB : 0 ≤ B) (hB2 : B ≤ 1000) {e : Nat} (he : e < 6) : slrV x e = if D e = 0 then -2 else nI (D e - 1) := by
  obtain ⟨h1, h2⟩ := wyC_dg hD
  have hb := bb_at hx hB hB2 (by omega) (by omega)
  have hcode : bbF x * 46656 - x = nI (wyC D 6) := by
    apply Int32.toInt_inj.mp
    have h46 : (46656 : Int32).toInt = 46656 := by decide
    have hm : (bbF x * 46656).toInt = B * 46656 := by rw [i_mulI (by rw [hb, h46]; omega) (by rw [hb, h46]; omega), hb, h46]
    rw [i_subI (by rw [hm, hx]; omega) (by rw [hm, hx]; omega), hm, hx, nI_t (by omega)]
    omega
  have hd := hD e
  unfold slrV digF
  rw [hcode, h2 e he]
  by_cases h0 : D e = 0
  · rw [if_pos h0, h0]; rfl
  · rw [if_neg h0, if_neg (fun z => h0 ((nI_z (by omega)).mp z)), nI_sub1 (by omega)]

