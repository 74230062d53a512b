/-! plans: the fewest clerks -/
theorem rc_fold (C : Nat → Bool) (S i : Nat) : ∀ (l : List Nat) (a : Nat → Bool), l.foldl (rcS C S) a i = true ↔ (a i = true ∨ ∃ P ∈ l, C P = true ∧ i = S ||| P)
  | [], a => by simp
  | P :: l, a => by
    rw [List.foldl_cons, rc_fold C S i l]
    unfold rcS
    simp only [Bool.or_eq_true, Bool.and_eq_true, decide_eq_true_eq, List.mem_cons]
    constructor
    · rintro ((h | h) | ⟨Q, h1, h2⟩)
      · exact Or.inl h
      · exact Or.inr ⟨P, Or.inl rfl, h⟩
      · exact Or.inr ⟨Q, Or.inr h1, h2⟩
    · rintro (h | ⟨Q, rfl | h1, h2⟩)
      · exact Or.inl (Or.inl h)
      · exact Or.inl (Or.inr h2)
      · exact Or.inr ⟨Q, h1, h2⟩
theorem rc_iff (A C : Nat → Bool) {op : Nat} (i : Nat) : ∀ n, rcF A C op n i = true ↔ ∃ S, S < n ∧ A S = true ∧ (i = S ∨ ∃ P, P ≠ 0 ∧ P < 64 ∧ P &&& anN op S = P ∧ C P = true ∧ i = S ||| P)
  | 0 => ⟨fun h => absurd (show false = true from h) (by decide), fun ⟨S, h, _⟩ => absurd h (by omega)⟩
  | n + 1 => by
    rw [rcF]
    by_cases hA : A n = true
    · rw [if_pos hA, rc_fold, Bool.or_eq_true, rc_iff A C i n, decide_eq_true_eq]
      constructor
      · rintro ((⟨S, h1, h2⟩ | h) | ⟨P, h1, h2, h3⟩)
        · exact ⟨S, by omega, h2⟩
        · exact ⟨n, by omega, hA, Or.inl h⟩
        · obtain ⟨q1, q2⟩ := ch_sub (anN op n) 64 _ P (Nat.and_self _) h1
          exact ⟨n, by omega, hA, Or.inr ⟨P, q1, by rw [← q2]; exact and_lt64 P (anN_lt op n), q2, h2, h3⟩⟩
      · rintro ⟨S, h1, h2, h3⟩
        by_cases hS : S = n
        · subst hS
          rcases h3 with h3 | ⟨P, q0, q1, q2, q3, q4⟩
          · exact Or.inl (Or.inr h3)
          · exact Or.inr ⟨P, List.contains_iff_mem.mp (ch_all _ (anN_lt op S) P q1 q0 q2), q3, q4⟩
        · exact Or.inl (Or.inl ⟨S, by omega, h2, h3⟩)
    · rw [if_neg hA, rc_iff A C i n]
      constructor
      · rintro ⟨S, h1, h2⟩
        exact ⟨S, by omega, h2⟩
      · rintro ⟨S, h1, h2, h3⟩
        have hS : S ≠ n := fun z => hA (z ▸ h2)
        exact ⟨S, by omega, h2, h3⟩
theorem or_xor_sub : ∀ S, S < 64 → ∀ P, P < 64 → S &&& P = 0 → (S ||| P) ^^^ P = S ∧ P &&& (S ||| P) = P ∧ S ||| P < 64 := by decide +kernel
theorem an_dis : ∀ S, S < 64 → ∀ P, P < 64 → ∀ op, op < 64 → P &&& anN op S = P → S &&& P = 0 ∧ P &&& op = P := by
  intro S hS P hP op hop h
  have hb : ∀ i, P.testBit i = true → (anN op S).testBit i = true := fun i hi => by
    have := congrArg (fun z => z.testBit i) h
    rw [Nat.testBit_and, hi, Bool.true_and] at this
    exact this
  have hb2 : ∀ i, P.testBit i = true → op.testBit i = true ∧ S.testBit i = false := fun i hi => by
    have := hb i hi
    rw [anN, tb_bitsN] at this
    simp only [Bool.and_eq_true, decide_eq_true_eq, Bool.not_eq_true'] at this
    exact ⟨this.2.1, this.2.2⟩
  constructor
  · apply Nat.eq_of_testBit_eq
    intro i
    rw [Nat.testBit_and, Nat.zero_testBit]
    cases hp : P.testBit i
    · rw [Bool.and_false]
    · rw [(hb2 i hp).2]; rfl
  · apply Nat.eq_of_testBit_eq
    intro i
    rw [Nat.testBit_and]
    cases hp : P.testBit i
    · rfl
    · rw [(hb2 i hp).1]; rfl
theorem rT_iff {C : Nat → Nat → Bool} {op : Nat} (hop : op < 64) (hC0 : ∀ c, C c 0 = true) : ∀ l S A, rT C op l S A = true ↔ ∃ D, dgO op D ∧ (∀ e, D e ≤ l) ∧ (∀ e, D e ≠ 0 → S.testBit (D e - 1) = true) ∧ dgV C D l ∧ dgS D = A
  | 0, S, A => by
    rw [rT, decide_eq_true_eq]
    constructor
    · intro h
      refine ⟨fun _ => 0, fun e he => absurd rfl he, fun _ => Nat.le_refl _, fun e he => absurd rfl he, fun k hk => absurd hk (by omega), ?_⟩
      rw [h]
      exact bitsN_0 (fun e _ => by simp)
    · rintro ⟨D, -, h1, -, -, h2⟩
      rw [← h2]
      exact bitsN_0 (fun e _ => by rw [decide_eq_true (by have := h1 e; omega)]; rfl)
  | l + 1, S, A => by
    rw [rT]
    by_cases hS : S.testBit l = true
    · rw [if_pos hS, rchB, rc_iff]
      constructor
      · rintro ⟨S', h1, h2, h3⟩
        obtain ⟨D, d1, d2, d3, d4, d5⟩ := (rT_iff hop hC0 l (S % 2 ^ l) S').mp h2
        have d3' : ∀ e, D e ≠ 0 → S.testBit (D e - 1) = true := fun e he => by
          have := d3 e he
          rw [Nat.testBit_mod_two_pow, Bool.and_eq_true] at this
          exact this.2
        rcases h3 with h3 | ⟨P, q0, q1, q2, q3, q4⟩
        · refine ⟨D, d1, fun e => by have := d2 e; omega, d3', fun k hk => ?_, by rw [d5, h3]⟩
          by_cases hkl : k = l
          · rw [hkl, dgA_0 d2]; exact hC0 l
          · exact d4 k (by omega)
        · obtain ⟨r1, r2⟩ := an_dis S' h1 P q1 op hop q2
          obtain ⟨x1, x2, x3⟩ := or_xor_sub S' h1 P q1 r1
          have hdS : dgS D = (S' ||| P) ^^^ P := by rw [d5, x1]
          have hzz := dg_z d1 x2 hdS
          refine ⟨dgW D l P, fun e he => ?_, fun e => ?_, fun e he => ?_, fun k hk => ?_, by rw [dgW_S x3 x2 hdS, q4]⟩
          · unfold dgW at he
            by_cases hp : P.testBit e = true
            · refine ⟨?_, ?_⟩
              · rcases Nat.lt_or_ge e 6 with h | h
                · exact h
                · rw [tb_6 q1 h] at hp; cases hp
              · have := congrArg (fun z => z.testBit e) r2
                rw [Nat.testBit_and, hp, Bool.true_and] at this
                exact this
            · rw [if_neg hp] at he
              exact d1 e he
          · unfold dgW
            split
            · omega
            · have := d2 e; omega
          · unfold dgW at he ⊢
            by_cases hp : P.testBit e = true
            · rw [if_pos hp]; exact hS
            · rw [if_neg hp] at he ⊢
              exact d3' e he
          · by_cases hkl : k = l
            · rw [hkl, dgW_A d2 q1]; exact q3
            · rw [dgW_k (by omega) hzz]; exact d4 k (by omega)
      · rintro ⟨D, d1, d2, d3, d4, d5⟩
        have hle : ∀ e, dgD D l e ≤ l := fun e => by
          unfold dgD
          split
          · omega
          · have := d2 e; omega
        have hnz : ∀ e, dgD D l e ≠ 0 → dgD D l e = D e := fun e he => by
          unfold dgD at he ⊢
          by_cases hd : D e = l + 1
          · rw [if_pos hd] at he; exact absurd rfl he
          · rw [if_neg hd]
        refine ⟨dgS (dgD D l), dgS_lt _, (rT_iff hop hC0 l (S % 2 ^ l) _).mpr ⟨dgD D l, fun e he => ?_, hle, fun e he => ?_, fun k hk => ?_, rfl⟩, ?_⟩
        · exact d1 e (by rw [← hnz e he]; exact he)
        · have h1 := hle e
          have h2 := d3 e (by rw [← hnz e he]; exact he)
          rw [Nat.testBit_mod_two_pow, decide_eq_true (show dgD D l e - 1 < l by omega), hnz e he, h2]
          rfl
        · rw [dgD_A hk]; exact d4 k (by omega)
        · rw [dgD_S (op := op), d5]
          by_cases hP0 : dgA D l = 0
          · exact Or.inl (by rw [hP0, Nat.xor_zero])
          · refine Or.inr ⟨dgA D l, hP0, dgA_lt D l, ?_, d4 l (by omega), ?_⟩
            · apply Nat.eq_of_testBit_eq
              intro e
              rw [Nat.testBit_and, anN, tb_bitsN, Nat.testBit_xor, ← d5, dgA_tb, dgS_tb]
              by_cases hd : D e = l + 1
              · by_cases he : e < 6
                · rw [(d1 e (by omega)).2, decide_eq_true he, decide_eq_true hd, decide_eq_false (show ¬ D e = 0 by omega)]
                  rfl
                · rw [decide_eq_false he]; rfl
              · rw [decide_eq_false hd, Bool.and_false, Bool.false_and]
            · apply Nat.eq_of_testBit_eq
              intro e
              rw [Nat.testBit_or, Nat.testBit_xor, ← d5, dgA_tb, dgS_tb]
              by_cases hd : D e = l + 1
              · rw [decide_eq_true hd, decide_eq_false (show ¬ D e = 0 by omega)]
                cases decide (e < 6) <;> rfl
              · rw [decide_eq_false hd, Bool.and_false, Bool.xor_false, Bool.or_false]
    · rw [if_neg hS, rT_iff hop hC0 l S A]
      constructor
      · rintro ⟨D, d1, d2, d3, d4, d5⟩
        refine ⟨D, d1, fun e => by have := d2 e; omega, d3, fun k hk => ?_, d5⟩
        by_cases hkl : k = l
        · rw [hkl, dgA_0 d2]; exact hC0 l
        · exact d4 k (by omega)
      · rintro ⟨D, d1, d2, d3, d4, d5⟩
        refine ⟨D, d1, fun e => ?_, d3, fun k hk => d4 k (by omega), d5⟩
        have h1 := d2 e
        by_cases hd : D e = l + 1
        · have := d3 e (by omega)
          rw [hd, Nat.add_sub_cancel] at this
          exact absurd this hS
        · omega
theorem few_or (R : Nat → Bool) : ∀ n, n ≤ 32 → (fewV R n = -2 ∧ ∀ x, x < n → R x = false) ∨ ∃ r, r < n ∧ fewV R n = nI r ∧ R r = true ∧ (∀ x, x < n → R x = true → pcN r ≤ pcN x) ∧ ∀ x, x < r → R x = true → pcN r < pcN x
  | 0, _ => Or.inl ⟨rfl, fun x hx => absurd hx (by omega)⟩
  | n + 1, hn => by
    rcases few_or R n (by omega) with ⟨h1, h2⟩ | ⟨r, h1, h2, h3, h4, h5⟩
    · by_cases hp : R n = true
      · refine Or.inr ⟨n, by omega, ?_, hp, fun x hx hxp => ?_, fun x hx hxp => ?_⟩
        · rw [fewV, h1, if_pos ⟨Or.inl rfl, hp⟩]
        · by_cases hxn : x = n
          · rw [hxn]; exact Nat.le_refl _
          · rw [h2 x (by omega)] at hxp; cases hxp
        · rw [h2 x hx] at hxp; cases hxp
      · refine Or.inl ⟨?_, fun x hx => ?_⟩
        · rw [fewV, if_neg (fun z => hp z.2), h1]
        · by_cases hxn : x = n
          · rw [hxn]; exact Bool.not_eq_true _ ▸ hp
          · exact h2 x (by omega)
    · by_cases hp : R n = true ∧ pcN n < pcN r
      · refine Or.inr ⟨n, by omega, ?_, hp.1, fun x hx hxp => ?_, fun x hx hxp => ?_⟩
        · rw [fewV, h2, if_pos ⟨Or.inr ((bc_lt (by omega) (by omega)).mpr hp.2), hp.1⟩]
        · by_cases hxn : x = n
          · rw [hxn]; exact Nat.le_refl _
          · have := h4 x (by omega) hxp; omega
        · have := h4 x hx hxp; omega
      · refine Or.inr ⟨r, by omega, ?_, h3, fun x hx hxp => ?_, h5⟩
        · rw [fewV, h2, if_neg (fun z => z.1.elim (fun q => nI_ne2 (show r < 1000 by omega) q) (fun q => hp ⟨z.2, (bc_lt (by omega) (by omega)).mp q⟩))]
        · by_cases hxn : x = n
          · subst hxn
            rcases Nat.lt_or_ge (pcN x) (pcN r) with h | h
            · exact absurd ⟨hxp, h⟩ hp
            · exact h
          · exact h4 x (by omega) hxp
/-- whom a plan uses -/
def setP (p : Nat → Bool) (D : Nat → Nat) : Nat → Nat
  | 0 => 0
  | e + 1 => if p e = true then setP p D e ||| 2 ^ (D e - 1) else setP p D e
theorem setP_tb (p : Nat → Bool) (D : Nat → Nat) (c : Nat) : ∀ n, (setP p D n).testBit c = true ↔ ∃ e, e < n ∧ p e = true ∧ D e - 1 = c
  | 0 => by rw [setP, Nat.zero_testBit]; exact ⟨fun h => absurd h (by decide), fun ⟨e, h, _⟩ => absurd h (by omega)⟩
  | n + 1 => by
    rw [setP]
    by_cases hp : p n = true
    · rw [if_pos hp, Nat.testBit_or, Bool.or_eq_true, setP_tb p D c n, Nat.testBit_two_pow, decide_eq_true_eq]
      constructor
      · rintro (⟨e, h1, h2⟩ | h)
        · exact ⟨e, by omega, h2⟩
        · exact ⟨n, by omega, hp, h⟩
      · rintro ⟨e, h1, h2, h3⟩
        by_cases hen : e = n
        · subst hen; exact Or.inr h3
        · exact Or.inl ⟨e, by omega, h2, h3⟩
    · rw [if_neg hp, setP_tb p D c n]
      constructor
      · rintro ⟨e, h1, h2⟩; exact ⟨e, by omega, h2⟩
      · rintro ⟨e, h1, h2, h3⟩
        have hen : e ≠ n := fun z => hp (z ▸ h2)
        exact ⟨e, by omega, h2, h3⟩
theorem setP_lt {p : Nat → Bool} {D : Nat → Nat} {nc : Nat} (h : ∀ e, p e = true → D e ≤ nc ∧ D e ≠ 0) (n : Nat) : setP p D n < 2 ^ nc := by
  apply Nat.lt_pow_two_of_testBit
  intro i hi
  cases hx : (setP p D n).testBit i
  · rfl
  · obtain ⟨e, -, h2, h3⟩ := (setP_tb p D i n).mp hx
    have := h e h2
    omega
theorem sub_pc : ∀ a, a < 32 → ∀ b, b < 32 → a &&& b = a → pcN a ≤ pcN b ∧ (pcN a = pcN b → a = b) := by decide +kernel

