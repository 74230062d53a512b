/-! plans: a plan D gives each deed 0 (nobody) or the number of its clerk and 1 -/
def dgA (D : Nat → Nat) (c : Nat) : Nat := bitsN (fun e => decide (D e = c + 1)) 6
def dgS (D : Nat → Nat) : Nat := bitsN (fun e => !decide (D e = 0)) 6
def dgO (op : Nat) (D : Nat → Nat) : Prop := ∀ e, D e ≠ 0 → e < 6 ∧ op.testBit e = true
theorem dgA_tb (D : Nat → Nat) (c e : Nat) : (dgA D c).testBit e = (decide (e < 6) && decide (D e = c + 1)) := tb_bitsN ..
theorem dgS_tb (D : Nat → Nat) (e : Nat) : (dgS D).testBit e = (decide (e < 6) && !decide (D e = 0)) := tb_bitsN ..
theorem dgA_lt (D : Nat → Nat) (c : Nat) : dgA D c < 64 := bitsN_lt _ 6
theorem dgS_lt (D : Nat → Nat) : dgS D < 64 := bitsN_lt _ 6
theorem dgA_0 {D : Nat → Nat} {c : Nat} (h : ∀ e, D e ≤ c) : dgA D c = 0 := bitsN_0 (fun e _ => decide_eq_false (by have := h e; omega))
theorem tb_6 {A e : Nat} (h : A < 64) (he : 6 ≤ e) : A.testBit e = false := Nat.testBit_lt_two_pow (Nat.lt_of_lt_of_le h (Nat.pow_le_pow_right (by decide) he : 2 ^ 6 ≤ 2 ^ e))
def sumZ (f : Nat → Int) : Nat → Int
  | 0 => 0
  | n + 1 => sumZ f n + f n
theorem sumZ_cg {f g : Nat → Int} : ∀ {n : Nat}, (∀ k, k < n → f k = g k) → sumZ f n = sumZ g n
  | 0, _ => rfl
  | n + 1, h => by rw [sumZ, sumZ, sumZ_cg (fun k hk => h k (by omega)), h n (by omega)]
theorem sumZ_add (f g : Nat → Int) : ∀ n, sumZ (fun k => f k + g k) n = sumZ f n + sumZ g n
  | 0 => rfl
  | n + 1 => by rw [sumZ, sumZ, sumZ, sumZ_add f g n]; omega
theorem sumZ_0 {f : Nat → Int} : ∀ {n : Nat}, (∀ k, k < n → f k = 0) → sumZ f n = 0
  | 0, _ => rfl
  | n + 1, h => by rw [sumZ, sumZ_0 (fun k hk => h k (by omega)), h n (by omega)]; rfl
theorem sumZ_rng {f : Nat → Int} {a b : Int} : ∀ {n : Nat}, (∀ k, k < n → a ≤ f k ∧ f k ≤ b) → (n : Int) * a ≤ sumZ f n ∧ sumZ f n ≤ (n : Int) * b
  | 0, _ => by rw [sumZ]; simp
  | n + 1, h => by
    have h1 := sumZ_rng (n := n) (fun k hk => h k (by omega))
    have h2 := h n (by omega)
    rw [sumZ, Int.natCast_add, Int.natCast_one, Int.add_mul, Int.add_mul, Int.one_mul, Int.one_mul]
    omega
/-- what a plan scores by the clerks below c -/
def scI (sc : Nat → Nat → Int32) (D : Nat → Nat) (c : Nat) : Int := sumZ (fun k => (sc k (dgA D k)).toInt) c
def dgV (C : Nat → Nat → Bool) (D : Nat → Nat) (c : Nat) : Prop := ∀ k, k < c → C k (dgA D k) = true
theorem jn_fold (B : Nat → Int32) (C : Nat → Bool) (sc : Nat → Int32) (S : Nat) : ∀ (l : List Nat) (m : Int32), m.toInt ≤ (l.foldl (jnS B C sc S) m).toInt ∧ (∀ P ∈ l, C P = true → (B (S ^^^ P) + sc P).toInt ≤ (l.foldl (jnS B C sc S) m).toInt) ∧ (l.foldl (jnS B C sc S) m = m ∨ ∃ P ∈ l, C P = true ∧ l.foldl (jnS B C sc S) m = B (S ^^^ P) + sc P)
  | [], m => ⟨Int.le_refl _, fun P hP => absurd hP (by simp), Or.inl rfl⟩
  | P :: l, m => by
    rw [List.foldl_cons]
    obtain ⟨h1, h2, h3⟩ := jn_fold B C sc S l (jnS B C sc S m P)
    have hm : m.toInt ≤ (jnS B C sc S m P).toInt ∧ (C P = true → (B (S ^^^ P) + sc P).toInt ≤ (jnS B C sc S m P).toInt) ∧ (jnS B C sc S m P = m ∨ C P = true ∧ jnS B C sc S m P = B (S ^^^ P) + sc P) := by
      unfold jnS
      by_cases hc : C P = true
      · rw [if_pos hc, mxF]
        by_cases hl : m < B (S ^^^ P) + sc P
        · rw [if_pos hl]
          have := i_lt hl
          exact ⟨by omega, fun _ => Int.le_refl _, Or.inr ⟨hc, rfl⟩⟩
        · rw [if_neg hl]
          have := i_nlt hl
          exact ⟨Int.le_refl _, fun _ => this, Or.inl rfl⟩
      · rw [if_neg hc]
        exact ⟨Int.le_refl _, fun z => absurd z hc, Or.inl rfl⟩
    refine ⟨by omega, fun Q hQ hcQ => ?_, ?_⟩
    · rcases List.mem_cons.mp hQ with rfl | hQ
      · have := hm.2.1 hcQ; omega
      · exact h2 Q hQ hcQ
    · rcases h3 with h3 | ⟨Q, hQ, hcQ, h3⟩
      · rcases hm.2.2 with h4 | ⟨h4, h5⟩
        · exact Or.inl (h3.trans h4)
        · exact Or.inr ⟨P, by simp, h4, h3.trans h5⟩
      · exact Or.inr ⟨Q, by simp [hQ], hcQ, h3⟩
def bsG (C : Nat → Nat → Bool) (sc : Nat → Nat → Int32) (op : Nat) : Nat → Nat → Int32
  | 0 => bB0
  | c + 1 => jn (bsG C sc op c) (C c) (sc c) op
theorem bsB_G (s : Nat → Nat → Int32) (PT PB : List (List Ins)) (nd : Nat) : ∀ c, bsB s PT PB nd c = bsG (fun c => plC s PT nd c (opN s nd)) (fun c => plS s PT PB nd c) (opN s nd) c
  | 0 => rfl
  | c + 1 => by rw [bsB, bsG, bsB_G s PT PB nd c]
/-- a plan without the clerk c -/
def dgD (D : Nat → Nat) (c : Nat) : Nat → Nat := fun e => if D e = c + 1 then 0 else D e
theorem dgD_S {op : Nat} {D : Nat → Nat} {c : Nat} : dgS (dgD D c) = dgS D ^^^ dgA D c := by
  apply Nat.eq_of_testBit_eq
  intro e
  rw [Nat.testBit_xor, dgS_tb, dgS_tb, dgA_tb]
  unfold dgD
  by_cases h : D e = c + 1
  · rw [if_pos h, h]
    cases decide (e < 6) <;> simp
  · rw [if_neg h, decide_eq_false h, Bool.and_false, Bool.xor_false]
theorem dgD_A {D : Nat → Nat} {c k : Nat} (hk : k < c) : dgA (dgD D c) k = dgA D k := by
  apply Nat.eq_of_testBit_eq
  intro e
  rw [dgA_tb, dgA_tb]
  unfold dgD
  by_cases h : D e = c + 1
  · rw [if_pos h, decide_eq_false (show ¬ (0 = k + 1) by omega), decide_eq_false (show ¬ (D e = k + 1) by omega)]
  · rw [if_neg h]
/-- a plan with P for the clerk c -/
def dgW (D : Nat → Nat) (c P : Nat) : Nat → Nat := fun e => if P.testBit e = true then c + 1 else D e
theorem dgW_A {D : Nat → Nat} {c P : Nat} (hD : ∀ e, D e ≤ c) (hP : P < 64) : dgA (dgW D c P) c = P := by
  apply Nat.eq_of_testBit_eq
  intro e
  rw [dgA_tb]
  unfold dgW
  by_cases h6 : e < 6
  · rw [decide_eq_true h6, Bool.true_and]
    by_cases h : P.testBit e = true
    · rw [if_pos h, h, decide_eq_true rfl]
    · rw [if_neg h, decide_eq_false (by have := hD e; omega)]
      exact (Bool.not_eq_true _ ▸ h : P.testBit e = false).symm
  · rw [decide_eq_false h6, Bool.false_and, tb_6 hP (by omega)]
theorem dgW_k {D : Nat → Nat} {c P k : Nat} (hk : k < c) (hz : ∀ e, P.testBit e = true → D e = 0) : dgA (dgW D c P) k = dgA D k := by
  apply Nat.eq_of_testBit_eq
  intro e
  rw [dgA_tb, dgA_tb]
  unfold dgW
  by_cases h : P.testBit e = true
  · rw [if_pos h, hz e h, decide_eq_false (show ¬ (c + 1 = k + 1) by omega), decide_eq_false (show ¬ (0 = k + 1) by omega)]
  · rw [if_neg h]
theorem dgW_S {D : Nat → Nat} {c P S : Nat} (hS : S < 64) (hP : P &&& S = P) (h : dgS D = S ^^^ P) : dgS (dgW D c P) = S := by
  apply Nat.eq_of_testBit_eq
  intro e
  have h1 := congrArg (fun z => z.testBit e) h
  have h2 := congrArg (fun z => z.testBit e) hP
  rw [Nat.testBit_and] at h2
  rw [Nat.testBit_xor, dgS_tb] at h1
  rw [dgS_tb]
  unfold dgW
  by_cases h6 : e < 6
  · rw [decide_eq_true h6, Bool.true_and] at h1 ⊢
    by_cases hp : P.testBit e = true
    · rw [if_pos hp]
      rw [hp, Bool.true_and] at h2
      rw [h2]
      simp
    · rw [if_neg hp, h1]
      rw [Bool.not_eq_true] at hp
      rw [hp, Bool.xor_false]
  · rw [decide_eq_false h6, Bool.false_and, tb_6 hS (by omega)]
theorem dg_z {D : Nat → Nat} {op S P : Nat} (hO : dgO op D) (hP : P &&& S = P) (h : dgS D = S ^^^ P) : ∀ e, P.testBit e = true → D e = 0 := by
  intro e hp
  have h1 := congrArg (fun z => z.testBit e) h
  have h2 := congrArg (fun z => z.testBit e) hP
  rw [Nat.testBit_and, hp, Bool.true_and] at h2
  rw [Nat.testBit_xor, dgS_tb, hp, h2] at h1
  by_cases h0 : D e = 0
  · exact h0
  · rw [decide_eq_true (hO e h0).1, decide_eq_false h0] at h1
    cases h1
section
variable {C : Nat → Nat → Bool} {sc : Nat → Nat → Int32} {op : Nat}
theorem dp_all (hop : op < 64) (hC0 : ∀ c, C c 0 = true) (hs0 : ∀ c, sc c 0 = 0) (hsr : ∀ c P, c < 5 → P < 64 → -300000 ≤ (sc c P).toInt ∧ (sc c P).toInt ≤ 28000000) : ∀ c, c ≤ 5 → (∀ S, S < 64 → -1000000000 ≤ (bsG C sc op c S).toInt ∧ (bsG C sc op c S).toInt ≤ (c : Int) * 28000000 ∧ ((bsG C sc op c S).toInt ≤ -1000000000 + (c : Int) * 28000000 ∨ ∃ D, dgO op D ∧ (∀ e, D e ≤ c) ∧ dgV C D c ∧ dgS D = S ∧ scI sc D c = (bsG C sc op c S).toInt)) ∧ ∀ D, dgO op D → (∀ e, D e ≤ c) → dgV C D c → scI sc D c ≤ (bsG C sc op c (dgS D)).toInt
  | 0, _ => by
    refine ⟨fun S hS => ?_, fun D hO hD _ => ?_⟩
    · rw [bsG, bB0]
      by_cases h0 : S = 0
      · rw [if_pos h0]
        refine ⟨by decide, by decide, Or.inr ⟨fun _ => 0, fun e he => absurd rfl he, fun _ => Nat.le_refl _, fun k hk => absurd hk (by omega), ?_, rfl⟩⟩
        rw [h0]
        exact bitsN_0 (fun e _ => by simp)
      · rw [if_neg h0]
        exact ⟨by decide, by decide, Or.inl (by decide)⟩
    · have : dgS D = 0 := bitsN_0 (fun e _ => by rw [decide_eq_true (by have := hD e; omega)]; rfl)
      rw [this]
      exact Int.le_refl _
  | c + 1, hc => by
    obtain ⟨ih1, ih2⟩ := dp_all hop hC0 hs0 hsr c (by omega)
    have hcand : ∀ S P, S < 64 → P < 64 → P &&& S = P → (bsG C sc op c (S ^^^ P) + sc c P).toInt = (bsG C sc op c (S ^^^ P)).toInt + (sc c P).toInt := by
      intro S P hS hP hsub
      obtain ⟨a1, a2, -⟩ := ih1 _ (sx_le S hS P hP hsub).2
      have := hsr c P (by omega) hP
      exact i_addI (by omega) (by omega)
    have hcast : ((c + 1 : Nat) : Int) * 28000000 = (c : Int) * 28000000 + 28000000 := by rw [Int.natCast_add, Int.add_mul]; rfl
    rw [hcast]
    have lift : ∀ D, (∀ e, D e ≤ c) → scI sc D (c + 1) = scI sc D c := fun D hD => by
      unfold scI
      rw [sumZ, dgA_0 hD, hs0]
      exact Int.add_zero _
    refine ⟨fun S hS => ?_, fun D hO hD hV => ?_⟩
    · obtain ⟨a1, a2, a3⟩ := ih1 S hS
      have old : (bsG C sc op c S).toInt ≤ -1000000000 + ((c : Int) * 28000000 + 28000000) ∨ ∃ D, dgO op D ∧ (∀ e, D e ≤ c + 1) ∧ dgV C D (c + 1) ∧ dgS D = S ∧ scI sc D (c + 1) = (bsG C sc op c S).toInt := by
        rcases a3 with a3 | ⟨D, d1, d2, d3, d4, d5⟩
        · exact Or.inl (by omega)
        · refine Or.inr ⟨D, d1, fun e => by have := d2 e; omega, fun k hk => ?_, d4, by rw [lift D d2, d5]⟩
          by_cases hkc : k = c
          · rw [hkc, dgA_0 d2]; exact hC0 c
          · exact d3 k (by omega)
      rw [bsG, jn]
      by_cases hz : S ≠ 0 ∧ S &&& op = S
      · rw [if_pos hz]
        obtain ⟨f1, f2, f3⟩ := jn_fold (bsG C sc op c) (C c) (sc c) S (chL S 64 S) (bsG C sc op c S)
        rcases f3 with f3 | ⟨P, hP, hcP, f3⟩
        · rw [f3]
          exact ⟨a1, by omega, old⟩
        · obtain ⟨p0, psub⟩ := ch_sub S 64 S P (Nat.and_self S) hP
          have hP64 : P < 64 := by rw [← psub]; exact and_lt64 P hS
          have hsx := sx_le S hS P hP64 psub
          obtain ⟨b1, b2, b3⟩ := ih1 _ hsx.2
          have hr := hsr c P (by omega) hP64
          have hcv := hcand S P hS hP64 psub
          refine ⟨by omega, by rw [f3]; omega, ?_⟩
          rw [f3, hcv]
          rcases b3 with b3 | ⟨D, d1, d2, d3, d4, d5⟩
          · exact Or.inl (by omega)
          · have hzz := dg_z d1 psub d4
            refine Or.inr ⟨dgW D c P, fun e he => ?_, fun e => ?_, fun k hk => ?_, dgW_S hS psub d4, ?_⟩
            · unfold dgW at he
              by_cases hp : P.testBit e = true
              · refine ⟨?_, ?_⟩
                · rcases Nat.lt_or_ge e 6 with h | h
                  · exact h
                  · rw [tb_6 hP64 h] at hp; cases hp
                · have h2 := congrArg (fun z => z.testBit e) psub
                  have h3 := congrArg (fun z => z.testBit e) hz.2
                  rw [Nat.testBit_and, hp, Bool.true_and] at h2
                  rw [Nat.testBit_and, h2, Bool.true_and] at h3
                  exact h3
              · rw [if_neg hp] at he
                exact d1 e he
            · unfold dgW
              split
              · omega
              · have := d2 e; omega
            · by_cases hkc : k = c
              · rw [hkc, dgW_A d2 hP64]; exact hcP
              · rw [dgW_k (by omega) hzz]; exact d3 k (by omega)
            · unfold scI
              rw [sumZ, dgW_A d2 hP64, sumZ_cg (g := fun k => (sc k (dgA D k)).toInt) (fun k hk => by rw [dgW_k hk hzz])]
              unfold scI at d5
              rw [d5]
      · rw [if_neg hz]
        exact ⟨a1, by omega, old⟩
    · have hSlt := dgS_lt D
      have hPlt := dgA_lt D c
      have psub : dgA D c &&& dgS D = dgA D c := by
        apply Nat.eq_of_testBit_eq
        intro e
        rw [Nat.testBit_and, dgA_tb, dgS_tb]
        by_cases h : D e = c + 1
        · rw [h]; cases decide (e < 6) <;> simp
        · rw [decide_eq_false h]; simp
      have Ssub : dgS D &&& op = dgS D := by
        apply Nat.eq_of_testBit_eq
        intro e
        rw [Nat.testBit_and, dgS_tb]
        by_cases h : D e = 0
        · rw [h]; simp
        · rw [(hO e h).2, Bool.and_true]
      by_cases hP0 : dgA D c = 0
      · have hDc : ∀ e, D e ≤ c := by
          intro e
          have h1 := congrArg (fun z => z.testBit e) hP0
          rw [dgA_tb, Nat.zero_testBit] at h1
          by_cases h : D e = c + 1
          · rw [decide_eq_true (hO e (by omega)).1, decide_eq_true h] at h1
            cases h1
          · have := hD e; omega
        rw [lift D hDc]
        have h1 := ih2 D hO hDc (fun k hk => hV k (by omega))
        rw [bsG, jn]
        by_cases hz : dgS D ≠ 0 ∧ dgS D &&& op = dgS D
        · rw [if_pos hz]
          have := (jn_fold (bsG C sc op c) (C c) (sc c) (dgS D) (chL (dgS D) 64 (dgS D)) (bsG C sc op c (dgS D))).1
          omega
        · rw [if_neg hz]; exact h1
      · have hS0 : dgS D ≠ 0 := fun z => hP0 (by rw [← psub, z, Nat.and_zero])
        rw [bsG, jn, if_pos ⟨hS0, Ssub⟩]
        have hmem : dgA D c ∈ chL (dgS D) 64 (dgS D) := List.contains_iff_mem.mp (ch_all _ hSlt _ hPlt hP0 psub)
        have h1 := (jn_fold (bsG C sc op c) (C c) (sc c) (dgS D) (chL (dgS D) 64 (dgS D)) (bsG C sc op c (dgS D))).2.1 _ hmem (hV c (by omega))
        rw [hcand _ _ hSlt hPlt psub, ← dgD_S (op := op)] at h1
        have hD'c : ∀ e, dgD D c e ≤ c := fun e => by
          unfold dgD
          split
          · omega
          · have := hD e; omega
        have h2 := ih2 (dgD D c) (fun e he => hO e (fun z => he (by unfold dgD; rw [z]; split <;> rfl))) hD'c (fun k hk => by rw [dgD_A hk]; exact hV k (by omega))
        have h3 : scI sc D (c + 1) = scI sc (dgD D c) c + (sc c (dgA D c)).toInt := by
          unfold scI
          rw [sumZ, sumZ_cg (g := fun k => (sc k (dgA (dgD D c) k)).toInt) (fun k hk => by rw [dgD_A hk])]
        omega
end
theorem mv_spec (B : Nat → Int32) : ∀ n, 0 ≤ (mvF B n).toInt ∧ (∀ k, k < n → (B k).toInt ≤ (mvF B n).toInt) ∧ (mvF B n = 0 ∨ ∃ k, k < n ∧ mvF B n = B k)
  | 0 => ⟨Int.le_refl _, fun k hk => absurd hk (by omega), Or.inl rfl⟩
  | n + 1 => by
    obtain ⟨h1, h2, h3⟩ := mv_spec B n
    rw [mvF, mxF]
    by_cases hl : mvF B n < B n
    · rw [if_pos hl]
      have := i_lt hl
      refine ⟨by omega, fun k hk => ?_, Or.inr ⟨n, by omega, rfl⟩⟩
      by_cases hkn : k = n
      · rw [hkn]; exact Int.le_refl _
      · have := h2 k (by omega); omega
    · rw [if_neg hl]
      have := i_nlt hl
      refine ⟨h1, fun k hk => ?_, ?_⟩
      · by_cases hkn : k = n
        · rw [hkn]; exact this
        · exact h2 k (by omega)
      · rcases h3 with h3 | ⟨k, hk, h3⟩
        · exact Or.inl h3
        · exact Or.inr ⟨k, by omega, h3⟩
theorem bst_all {C : Nat → Nat → Bool} {sc : Nat → Nat → Int32} {op nc : Nat} (h5 : nc ≤ 5) (hop : op < 64) (hC0 : ∀ c, C c 0 = true) (hs0 : ∀ c, sc c 0 = 0) (hsr : ∀ c P, c < 5 → P < 64 → -300000 ≤ (sc c P).toInt ∧ (sc c P).toInt ≤ 28000000) : (∃ D, dgO op D ∧ (∀ e, D e ≤ nc) ∧ dgV C D nc ∧ scI sc D nc = (mvF (bsG C sc op nc) 64).toInt) ∧ ∀ D, dgO op D → (∀ e, D e ≤ nc) → dgV C D nc → scI sc D nc ≤ (mvF (bsG C sc op nc) 64).toInt := by
  obtain ⟨h1, h2⟩ := dp_all hop hC0 hs0 hsr nc h5
  obtain ⟨m1, m2, m3⟩ := mv_spec (bsG C sc op nc) 64
  refine ⟨?_, fun D hO hD hV => ?_⟩
  · have zero : ∃ D, dgO op D ∧ (∀ e, D e ≤ nc) ∧ dgV C D nc ∧ scI sc D nc = 0 := by
      have hz : ∀ k, dgA (fun _ => 0) k = 0 := fun k => bitsN_0 (fun e _ => decide_eq_false (show ¬ (0 = k + 1) by omega))
      refine ⟨fun _ => 0, fun e he => absurd rfl he, fun _ => Nat.zero_le _, fun k _ => by rw [hz]; exact hC0 k, ?_⟩
      unfold scI
      exact sumZ_0 (fun k _ => by rw [hz, hs0]; rfl)
    rcases m3 with m3 | ⟨k, hk, m3⟩
    · rw [m3]; exact zero
    · obtain ⟨a1, a2, a3⟩ := h1 k hk
      rcases a3 with a3 | ⟨D, d1, d2, d3, -, d5⟩
      · rw [m3] at m1
        have : (nc : Int) ≤ 5 := by omega
        omega
      · exact ⟨D, d1, d2, d3, by rw [m3, d5]⟩
  · have := h2 D hO hD hV
    have := m2 _ (dgS_lt D)
    omega

