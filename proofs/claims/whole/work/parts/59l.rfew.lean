/-! the reference: the fewest -/
section
variable {V : Nat → Nat → Int32} {PT : List (List Ins)} {nc nd om : Nat} {p : Nat → Bool}
/-- a way whose clerks are the fewest of those below n -/
def FwW (V : Nat → Nat → Int32) (PT : List (List Ins)) (p : Nat → Bool) (nc nd om n b : Nat) : Prop := b < n ∧ okD V PT nd (wyP p nd nc om 1 b) nd = true ∧ ∀ x, x < n → okD V PT nd (wyP p nd nc om 1 x) nd = true → pcN (setP p (wyP p nd nc om 1 b) nd) < pcN (setP p (wyP p nd nc om 1 x) nd) ∨ pcN (setP p (wyP p nd nc om 1 b) nd) = pcN (setP p (wyP p nd nc om 1 x) nd) ∧ setP p (wyP p nd nc om 1 b) nd ≤ setP p (wyP p nd nc om 1 x) nd
theorem hb_few (hom : om = cntN p nd) {x : Nat} (hx : x < nc ^ om) : 0 < nc ∨ om = 0 := by
  rcases Nat.eq_zero_or_pos nc with h | h
  · rcases Nat.eq_zero_or_pos om with h1 | h1
    · exact Or.inr h1
    · rw [h, Nat.zero_pow h1] at hx; omega
  · exact Or.inl h
theorem few_all (h6 : nd ≤ 6) (hnc : nc ≤ 5) (hp : p = openB V) (hom : om = cntN p nd) : (∀ b, FwW V PT p nc nd om (nc ^ om) b → fewA V PT nc nd = nI (setP p (wyP p nd nc om 1 b) nd) ∧ setP p (wyP p nd nc om 1 b) nd < 32) ∧ ((∀ x, x < nc ^ om → okD V PT nd (wyP p nd nc om 1 x) nd = false) → fewA V PT nc nd = -2) := by
  obtain ⟨q, hq⟩ : ∃ q : Nat → Bool, q = fun e => decide (e < nd) && p e := ⟨_, rfl⟩
  have hqp : ∀ e, e < nd → q e = p e := fun e he => by rw [hq]; show (decide (e < nd) && p e) = p e; rw [decide_eq_true he, Bool.true_and]
  have hqn : ∀ e, nd ≤ e → q e = false := fun e he => by rw [hq]; show (decide (e < nd) && p e) = false; rw [decide_eq_false (by omega), Bool.false_and]
  have hcq : ∀ e, e ≤ nd → cntN q e = cntN p e := fun e he => cntN_cg (fun k hk => hqp k (by omega))
  have homq : om = cntN q nd := by rw [hcq nd (Nat.le_refl _)]; exact hom
  have hop : ∀ e, (opN V nd).testBit e = q e := fun e => by rw [opN_tb, hq, hp]
  have hR : ∀ S, rT (fun c => plC V PT nd c (opN V nd)) (opN V nd) nc S (opN V nd) = true ↔ ∃ D, dgO (opN V nd) D ∧ (∀ e, D e ≤ nc) ∧ (∀ e, D e ≠ 0 → S.testBit (D e - 1) = true) ∧ okD V PT nd D nd = true ∧ dgS D = opN V nd := by
    intro S
    rw [rT_iff (opN_lt V h6) (fun c => plC_0 V PT nd c _)]
    constructor
    · rintro ⟨D, d1, d2, d3, d4, d5⟩
      exact ⟨D, d1, d2, d3, (ok_V h6 d1 d2 hnc).mpr d4, d5⟩
    · rintro ⟨D, d1, d2, d3, d4, d5⟩
      exact ⟨D, d1, d2, d3, (ok_V h6 d1 d2 hnc).mp d4, d5⟩
  obtain ⟨R, hRe⟩ : ∃ R : Nat → Bool, R = fun S => rT (fun c => plC V PT nd c (opN V nd)) (opN V nd) nc S (opN V nd) := ⟨_, rfl⟩
  have hfew : fewA V PT nc nd = fewV R (2 ^ nc) := by rw [hRe]; rfl
  rw [hfew]
  have hR' : ∀ S, R S = true ↔ ∃ D, dgO (opN V nd) D ∧ (∀ e, D e ≤ nc) ∧ (∀ e, D e ≠ 0 → S.testBit (D e - 1) = true) ∧ okD V PT nd D nd = true ∧ dgS D = opN V nd := fun S => by rw [hRe]; exact hR S
  have h32 : 2 ^ nc ≤ 32 := (Nat.pow_le_pow_right (by decide) hnc : 2 ^ nc ≤ 2 ^ 5)
  have hDe : ∀ x e, e < nd → p e = true → wyP p nd nc om 1 x e = wyG p nc om x e + 1 := fun x e he hpe => by unfold wyP; exact if_pos ⟨he, hpe⟩
  -- ways are plans
  have toR : ∀ x, x < nc ^ om → okD V PT nd (wyP p nd nc om 1 x) nd = true → setP p (wyP p nd nc om 1 x) nd < 2 ^ nc ∧ R (setP p (wyP p nd nc om 1 x) nd) = true := by
    intro x hx hok
    have hb0 := hb_few hom hx
    have hO : dgO (opN V nd) (wyP p nd nc om 1 x) := wyP_O h6 hp
    have hle : ∀ e, wyP p nd nc om 1 x e ≤ nc := wyP_le (base := nc) (k0 := 1) rfl hb0 hom
    have hset : ∀ n, n ≤ nd → setP p (wyP p nd nc om 1 x) n = setP q (wyP p nd nc om 1 x) n := by
      intro n
      induction n with
      | zero => intro _; rfl
      | succ n ih => intro hn; rw [setP, setP, ih (by omega), hqp n (by omega)]
    rw [hset nd (Nat.le_refl _)]
    have hqD : ∀ e, q e = true → wyP p nd nc om 1 x e ≤ nc ∧ wyP p nd nc om 1 x e ≠ 0 := fun e hqe => by
      have hen : e < nd := by
        rcases Nat.lt_or_ge e nd with h | h
        · exact h
        · rw [hqn e h] at hqe; cases hqe
      refine ⟨hle e, ?_⟩
      rw [hDe x e hen (by rw [← hqp e hen]; exact hqe)]
      omega
    refine ⟨setP_lt hqD nd, (hR' _).mpr ⟨_, hO, hle, fun e he => ?_, hok, ?_⟩⟩
    · obtain ⟨a1, a2⟩ := dgO_op hO he
      refine (setP_tb q _ _ nd).mpr ⟨e, a1, ?_, rfl⟩
      rw [hqp e a1, hp]
      exact decide_eq_true a2
    · apply Nat.eq_of_testBit_eq
      intro e
      rw [dgS_tb, hop]
      cases hqe : q e
      · have h0 : wyP p nd nc om 1 x e = 0 := by
          unfold wyP
          exact if_neg (fun z => by rw [hqp e z.1, z.2] at hqe; cases hqe)
        rw [h0]; simp
      · have hen : e < nd := by
          rcases Nat.lt_or_ge e nd with h | h
          · exact h
          · rw [hqn e h] at hqe; cases hqe
        rw [decide_eq_true (show e < 6 by omega), decide_eq_false (hqD e hqe).2]
        rfl
  -- plans are ways
  have ofR : ∀ S, R S = true → ∃ x, x < nc ^ om ∧ okD V PT nd (wyP p nd nc om 1 x) nd = true ∧ setP p (wyP p nd nc om 1 x) nd &&& S = setP p (wyP p nd nc om 1 x) nd := by
    intro S hS
    obtain ⟨D, d1, d2, d3, d4, d5⟩ := (hR' S).mp hS
    have hq1 : ∀ e, q e = true → D e ≠ 0 := fun e hqe h0 => by
      have := congrArg (fun z => z.testBit e) d5
      rw [dgS_tb, hop, hqe, h0] at this
      simp at this
    have hq0 : ∀ e, q e = false → D e = 0 := by
      intro e he
      refine Decidable.byContradiction fun h0 => ?_
      obtain ⟨a1, a2⟩ := dgO_op d1 h0
      rw [hqp e a1, hp] at he
      unfold openB at he
      rw [a2] at he
      exact absurd he (by decide)
    have hDl : ∀ e, q e = true → (fun e => D e - 1) e < nc := fun e hqe => by
      have h1 := d2 e
      have h2 := hq1 e hqe
      show D e - 1 < nc
      omega
    have hwlt := wy_lt (p := q) (base := nc) (dg := fun e => D e - 1) hDl nd
    rw [← homq] at hwlt
    have hDw : wyP p nd nc om 1 (wyW q nc (fun e => D e - 1) nd) = D := by
      funext e
      cases hqe : q e
      · rw [hq0 e hqe]
        unfold wyP
        exact if_neg (fun z => by rw [hqp e z.1, z.2] at hqe; cases hqe)
      · have hen : e < nd := by
          rcases Nat.lt_or_ge e nd with h | h
          · exact h
          · rw [hqn e h] at hqe; cases hqe
        rw [hDe _ e hen (by rw [← hqp e hen]; exact hqe)]
        have h1 := wy_sur (p := q) (base := nc) (n := nd) hDl hen hqe
        rw [← homq] at h1
        have h2 : wyG p nc om (wyW q nc (fun e => D e - 1) nd) e = wyG q nc om (wyW q nc (fun e => D e - 1) nd) e := by unfold wyG; rw [hcq e (by omega)]
        have h3 := hq1 e hqe
        have h4 : wyG q nc om (wyW q nc (fun e => D e - 1) nd) e = D e - 1 := h1
        rw [h2, h4]
        omega
    refine ⟨_, hwlt, by rw [hDw]; exact d4, ?_⟩
    rw [hDw]
    apply Nat.eq_of_testBit_eq
    intro c
    rw [Nat.testBit_and]
    cases hx : (setP p D nd).testBit c
    · rfl
    · obtain ⟨e, a1, a2, a3⟩ := (setP_tb p D c nd).mp hx
      have := d3 e (hq1 e (by rw [hqp e a1]; exact a2))
      rw [a3] at this
      rw [this]
      rfl
  refine ⟨fun b hb => ?_, fun hno => ?_⟩
  · obtain ⟨b1, b2, b3⟩ := hb
    obtain ⟨c1, c2⟩ := toR b b1 b2
    refine ⟨?_, by omega⟩
    rcases few_or R (2 ^ nc) h32 with ⟨f1, f2⟩ | ⟨r, f1, f2, f3, f4, f5⟩
    · rw [f2 _ c1] at c2; cases c2
    · rw [f2]
      congr 1
      obtain ⟨x, x1, x2, x3⟩ := ofR r f3
      obtain ⟨y1, y2⟩ := toR x x1 x2
      obtain ⟨s1, s2⟩ := sub_pc _ (show setP p (wyP p nd nc om 1 x) nd < 32 by omega) r (by omega) x3
      have hm := f4 _ y1 y2
      have hxr := s2 (by omega)
      have hb3 := b3 x x1 x2
      rw [hxr] at hb3
      have hm2 := f4 _ c1 c2
      rcases Nat.lt_trichotomy (setP p (wyP p nd nc om 1 b) nd) r with h | h | h
      · have := f5 _ h c2; omega
      · exact h.symm
      · omega
  · rcases few_or R (2 ^ nc) h32 with ⟨f1, f2⟩ | ⟨r, f1, f2, f3, f4, f5⟩
    · exact f1
    · obtain ⟨x, x1, x2, x3⟩ := ofR r f3
      rw [hno x x1] at x2; cases x2
end

