/-! the reference: all -/
def sumP (p : Nat → Bool) (g : Nat → Int32) : Nat → Int32
  | 0 => 0
  | e + 1 => if p e = true then sumP p g e + g e else sumP p g e
theorem sumP_z {p : Nat → Bool} {g : Nat → Int32} (hg : ∀ e, 0 ≤ (g e).toInt ∧ (g e).toInt ≤ 99) : ∀ n, n ≤ 6 → (sumP p g n).toInt = sumZ (fun e => if p e = true then (g e).toInt else 0) n ∧ 0 ≤ (sumP p g n).toInt ∧ (sumP p g n).toInt ≤ (n : Int) * 99
  | 0, _ => ⟨rfl, by simp [sumP], by simp [sumP]⟩
  | n + 1, hn => by
    obtain ⟨h1, h2, h3⟩ := sumP_z (p := p) hg n (by omega)
    have hcast : ((n + 1 : Nat) : Int) = (n : Int) + 1 := rfl
    rw [hcast, Int.add_mul, sumP, sumZ]
    by_cases hp : p n = true
    · have := hg n
      rw [if_pos hp, if_pos hp, i_addI (by omega) (by omega)]
      omega
    · rw [if_neg hp, if_neg hp]; omega
theorem sumP_sk {p : Nat → Bool} {g : Nat → Int32} {e : Nat} : ∀ {e1 : Nat}, e ≤ e1 → (∀ j, e ≤ j → j < e1 → p j = false) → sumP p g e1 = sumP p g e
  | 0, h, _ => by rw [Nat.le_zero.mp h]
  | e1 + 1, h, hn => by
    rcases Nat.lt_or_ge e1 e with h2 | h2
    · rw [show e = e1 + 1 by omega]
    · rw [sumP, hn e1 h2 (by omega), if_neg (by decide), sumP_sk h2 (fun j a b => hn j a (by omega))]
theorem sumZ_hi {f : Nat → Int} {n : Nat} (h : ∀ k, n ≤ k → f k = 0) : ∀ {m : Nat}, n ≤ m → sumZ f m = sumZ f n
  | 0, hm => by rw [Nat.le_zero.mp hm]
  | m + 1, hm => by
    rcases Nat.lt_or_ge m n with h1 | h1
    · rw [show n = m + 1 by omega]
    · rw [sumZ, h m h1, sumZ_hi h h1]; exact Int.add_zero _
section
variable {V : Nat → Nat → Int32} {PT PB PF : List (List Ins)} {nc nd om base k0 w : Nat} {p : Nat → Bool}
theorem wyP_O (h6 : nd ≤ 6) (hp : p = openB V) : dgO (opN V nd) (wyP p nd base om k0 w) := by
  intro e he
  unfold wyP at he
  have h1 : e < nd ∧ p e = true := Decidable.byContradiction fun z => he (if_neg z)
  refine ⟨by omega, ?_⟩
  rw [opN_tb, decide_eq_true h1.1, ← hp, h1.2]
  rfl
theorem wyP_le (hb : base + k0 = nc + 1) (hb0 : 0 < base ∨ om = 0) (hom : om = cntN p nd) : ∀ e, wyP p nd base om k0 w e ≤ nc := by
  intro e
  unfold wyP
  split
  · rename_i h
    have hbp : 0 < base := by
      rcases hb0 with h0 | h0
      · exact h0
      · have := cnt_lt h.2 h.1; omega
    have : wyG p base om w e < base := Nat.mod_lt _ hbp
    omega
  · omega
theorem wyP_sk {sz e0 x : Nat} (hb : 0 < base) (hom : om = cntN p nd) (he0 : e0 < nd) (hp0 : p e0 = true) (hsz : sz = base ^ (om - 1 - cntN p e0)) (h1 : w ≤ x) (h2 : x < (w / sz + 1) * sz) : ∀ e, e < e0 + 1 → wyP p nd base om k0 x e = wyP p nd base om k0 w e := by
  intro e he
  have hszp : 0 < sz := by rw [hsz]; exact Nat.pow_pos hb
  have hq : x / sz = w / sz := by
    have a := Nat.div_le_div_right (c := sz) h1
    have b := (Nat.div_lt_iff_lt_mul hszp).mpr h2
    omega
  unfold wyP
  by_cases hz : e < nd ∧ p e = true
  · rw [if_pos hz, if_pos hz]
    unfold wyG
    have hc := cnt_mono p (show e ≤ e0 by omega)
    have hc0 := cnt_lt hp0 he0
    rw [show om - 1 - cntN p e = (om - 1 - cntN p e0) + (cntN p e0 - cntN p e) by omega, Nat.pow_add, ← hsz, ← Nat.div_div_eq_div_mul, ← Nat.div_div_eq_div_mul, hq]
  · rw [if_neg hz, if_neg hz]
theorem w_next {sz e0 : Nat} (hb : 0 < base) (hom : om = cntN p nd) (he0 : e0 < nd) (hp0 : p e0 = true) (hsz : sz = base ^ (om - 1 - cntN p e0)) (hw : w < base ^ om) : w < (w / sz + 1) * sz ∧ (w / sz + 1) * sz ≤ base ^ om := by
  have hszp : 0 < sz := by rw [hsz]; exact Nat.pow_pos hb
  have hc0 := cnt_lt hp0 he0
  have hpw : base ^ om = base ^ (cntN p e0 + 1) * sz := by rw [hsz, ← Nat.pow_add]; congr 1; omega
  constructor
  · have h1 := Nat.div_add_mod w sz
    have h2 := Nat.mod_lt w hszp
    rw [Nat.add_mul, Nat.one_mul, Nat.mul_comm]
    omega
  · rw [hpw]
    rw [hpw] at hw
    exact Nat.mul_le_mul_right sz ((Nat.div_lt_iff_lt_mul hszp).mpr hw)
theorem plB_0 {D : Nat → Nat} {e : Nat} (h : D e = 0) : plB V PT PB nd D e = 0 := if_pos h
theorem plM_P (h6 : nd ≤ 6) (hp : p = openB V) : (sumP p (plB V PT PB nd (wyP p nd base om k0 w)) nd).toInt = plM V PT PB nd (wyP p nd base om k0 w) := by
  rw [(sumP_z (fun e => plB_r V PT PB nd _ e) nd h6).1]
  unfold plM
  rw [sumZ_hi (n := nd) (m := 6) (fun k hk => by rw [plB_0 (by unfold wyP; exact if_neg (fun z => by omega))]; rfl) h6]
  refine sumZ_cg (fun k hk => ?_)
  by_cases hz : p k = true
  · rw [if_pos hz]
  · rw [if_neg hz, plB_0 (by unfold wyP; exact if_neg (fun z => hz z.2))]; rfl
theorem st_SI {D : Nat → Nat} {nt : Nat} (h6 : nd ≤ 6) (hO : dgO (opN V nd) D) (h5 : ∀ e, D e ≤ nc) (hnc : nc ≤ 5) (hI : SI V nc nd nt) : SI (stD V PT nd D nd) nc nd nt := by
  have hP := st_P (PT := PT) h6 hO h5 hnc nd (Nat.le_refl _)
  refine ⟨fun e he => ?_, fun k hk i hi => ?_⟩
  · rw [hP.2.2.1 e he]
    by_cases hz : e < nd ∧ D e ≠ 0
    · rw [if_pos hz]
      have := h5 e
      exact Or.inr (Or.inr ⟨D e - 1, by omega, rfl⟩)
    · rw [if_neg hz]
      exact hI.1 e he
  · rw [hP.1 21 (by decide)]
    exact hI.2 k hk i hi
/-- a way that is the best of those below n -/
def BsW (V : Nat → Nat → Int32) (PT PB : List (List Ins)) (p : Nat → Bool) (nc nd om n b : Nat) : Prop := b < n ∧ okD V PT nd (wyP p nd (nc + 1) om 0 b) nd = true ∧ (∀ x, x < n → okD V PT nd (wyP p nd (nc + 1) om 0 x) nd = true → plM V PT PB nd (wyP p nd (nc + 1) om 0 x) ≤ plM V PT PB nd (wyP p nd (nc + 1) om 0 b)) ∧ ∀ x, x < b → okD V PT nd (wyP p nd (nc + 1) om 0 x) nd = true → plM V PT PB nd (wyP p nd (nc + 1) om 0 x) < plM V PT PB nd (wyP p nd (nc + 1) om 0 b)
theorem bs_all (h6 : nd ≤ 6) (hnc : nc ≤ 5) (hp : p = openB V) (hom : om = cntN p nd) {b : Nat} (hB : BsW V PT PB p nc nd om ((nc + 1) ^ om) b) : (bbF (bstV V PT PB nc nd)).toInt = plM V PT PB nd (wyP p nd (nc + 1) om 0 b) ∧ ∀ e, e < 6 → slrV (bstV V PT PB nc nd) e = if wyP p nd (nc + 1) om 0 b e = 0 then -2 else nI (wyP p nd (nc + 1) om 0 b e - 1) := by
  obtain ⟨b1, b2, b3, b4⟩ := hB
  refine all_pure h6 hnc (wyP_O h6 hp) (wyP_le (k0 := 0) rfl (Or.inl (by omega)) hom) b2 (fun D dO d5 dok => ?_)
  obtain ⟨q, hq⟩ : ∃ q : Nat → Bool, q = fun e => decide (e < nd) && p e := ⟨_, rfl⟩
  have hqp : ∀ e, e < nd → q e = p e := fun e he => by rw [hq]; show (decide (e < nd) && p e) = p e; rw [decide_eq_true he, Bool.true_and]
  have hqn : ∀ e, nd ≤ e → q e = false := fun e he => by rw [hq]; show (decide (e < nd) && p e) = false; rw [decide_eq_false (by omega), Bool.false_and]
  have hcq : ∀ e, e ≤ nd → cntN q e = cntN p e := fun e he => cntN_cg (fun k hk => hqp k (by omega))
  have homq : om = cntN q nd := by rw [hcq nd (Nat.le_refl _)]; exact hom
  have hDz : ∀ e, q e = false → D e = 0 := by
    intro e he
    refine Decidable.byContradiction fun h0 => ?_
    obtain ⟨a1, a2⟩ := dgO_op dO h0
    rw [hqp e a1, hp] at he
    unfold openB at he
    rw [a2] at he
    exact absurd he (by decide)
  have hDl : ∀ e, q e = true → D e < nc + 1 := fun e _ => by have := d5 e; omega
  have hwlt := wy_lt (p := q) (base := nc + 1) hDl nd
  rw [← homq] at hwlt
  have hwp : ∀ x e, wyP p nd (nc + 1) om 0 x e = if q e = true then wyG q (nc + 1) om x e else 0 := by
    intro x e
    unfold wyP
    by_cases hen : e < nd
    · by_cases hpe : p e = true
      · rw [if_pos ⟨hen, hpe⟩, if_pos (by rw [hqp e hen]; exact hpe), Nat.add_zero]
        unfold wyG
        rw [hcq e (by omega)]
      · rw [if_neg (fun z => hpe z.2), if_neg (by rw [hqp e hen]; exact hpe)]
    · rw [if_neg (fun z => hen z.1), if_neg (by rw [hqn e (by omega)]; decide)]
  have hDw : wyP p nd (nc + 1) om 0 (wyW q (nc + 1) D nd) = D := by
    funext e
    rw [hwp]
    by_cases hqe : q e = true
    · have hen : e < nd := by
        rcases Nat.lt_or_ge e nd with h | h
        · exact h
        · rw [hqn e h] at hqe; cases hqe
      rw [if_pos hqe, homq, wy_sur hDl hen hqe]
    · rw [if_neg hqe, hDz e (Bool.not_eq_true _ ▸ hqe)]
  generalize hwD : wyW q (nc + 1) D nd = wD at hwlt hDw
  have hle := b3 wD hwlt (by rw [hDw]; exact dok)
  rw [hDw] at hle
  rcases Int.lt_or_eq_of_le hle with h | h
  · exact Or.inl h
  · refine Or.inr ⟨h, ?_⟩
    have hbw : b ≤ wD := by
      rcases Nat.lt_or_ge wD b with h1 | h1
      · have := b4 wD h1 (by rw [hDw]; exact dok)
        rw [hDw] at this
        omega
      · exact h1
    have hWb : ∀ x, x < (nc + 1) ^ om → wyW q (nc + 1) (wyP p nd (nc + 1) om 0 x) 6 = x := by
      intro x hx
      have e1 : wyW q (nc + 1) (wyP p nd (nc + 1) om 0 x) 6 = wyW q (nc + 1) (wyG q (nc + 1) om x) 6 := wyW_cg (fun e _ hqe => by rw [hwp, if_pos hqe])
      rw [e1]
      exact wy_at (n := 6) (by rw [cnt_hi (n := nd) (m := 6) hqn h6]; exact homq) hx
    have hord := wy_ord (p := q) (base := nc + 1) (D := wyP p nd (nc + 1) om 0 b) (D' := D) (by omega) (fun e hqe => by rw [hwp, if_pos hqe]; exact Nat.mod_lt _ (by omega)) hDl (fun e hqe => by rw [hwp, if_neg (by rw [hqe]; decide)]) hDz 6
    have hW2 := hWb wD hwlt
    rw [hDw] at hW2
    rw [hWb b b1, hW2] at hord
    rcases Nat.lt_or_eq_of_le hbw with h1 | h1
    · exact Nat.le_of_lt (hord.1 h1)
    · exact Nat.le_of_eq (hord.2 h1)
end

