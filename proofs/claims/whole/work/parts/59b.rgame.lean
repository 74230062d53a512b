/-! the reference: the game -/
theorem an_x : ∀ S, S < 64 → ∀ e, e < 6 → S.testBit e = true → anN S (2 ^ e) = S ^^^ 2 ^ e := by decide +kernel
theorem xr_lt : ∀ S, S < 64 → ∀ e, e < 6 → S.testBit e = true → S ^^^ 2 ^ e < S := by decide +kernel
theorem xr_sub : ∀ S, S < 64 → ∀ e, e < 6 → ∀ A, A < 64 → S &&& A = S → S.testBit e = true → (S ^^^ 2 ^ e) &&& A = S ^^^ 2 ^ e := by decide +kernel
theorem gnT_lo (b : Nat → Int32) {k : Nat} : ∀ {n : Nat}, k ≤ n → gnT b n k = gnT b k k
  | 0, h => by rw [Nat.le_zero.mp h]
  | n + 1, h => by
    by_cases hk : k = n + 1
    · rw [hk]
    · rw [gnT]
      unfold upd
      rw [if_neg hk]
      exact gnT_lo b (by omega)
theorem gnS_cg {b G G' : Nat → Int32} {S : Nat} : ∀ {n : Nat}, (∀ e, e < n → S.testBit e = true → G (S ^^^ 2 ^ e) = G' (S ^^^ 2 ^ e)) → gnS b G S n = gnS b G' S n
  | 0, _ => rfl
  | n + 1, h => by
    rw [gnS, gnS, gnS_cg (fun e he => h e (by omega))]
    by_cases hb : S.testBit n = true
    · rw [h n (by omega) hb]
    · rw [if_neg hb, if_neg hb]
theorem gnT_at (b : Nat → Int32) {n S : Nat} (hS : S ≤ n) (h0 : S ≠ 0) (h6 : S < 64) : gnT b n S = gnS b (gnT b n) S 6 := by
  rw [gnT_lo b hS]
  obtain ⟨m, rfl⟩ : ∃ m, S = m + 1 := ⟨S - 1, by omega⟩
  rw [gnT]
  unfold upd
  rw [if_pos rfl]
  refine gnS_cg (fun e he hb => ?_)
  have := xr_lt (m + 1) h6 e he hb
  rw [gnT_lo b (k := (m + 1) ^^^ 2 ^ e) (n := m) (by omega), gnT_lo b (k := (m + 1) ^^^ 2 ^ e) (n := n) (by omega)]
/-- the pick, as the reference finds it -/
def gbV (g : Nat → Int32) (S : Nat) : Nat → Int32
  | 0 => -2
  | n + 1 => if S.testBit n = true ∧ (gbV g S n < 0 ∨ g (gbV g S n).toNatClampNeg < g n) then nI n else gbV g S n
theorem gb_or (b G : Nat → Int32) (S : Nat) (hB : ∀ e, e < 6 → S.testBit e = true → -1000000000 ≤ (b e - G (S ^^^ 2 ^ e)).toInt) : ∀ n, n ≤ 6 → (gbV (fun e => b e - G (S ^^^ 2 ^ e)) S n = -2 ∧ gnS b G S n = -1000000000 ∧ ∀ j, j < n → S.testBit j = false) ∨ ∃ e, e < n ∧ S.testBit e = true ∧ gbV (fun e => b e - G (S ^^^ 2 ^ e)) S n = nI e ∧ gnS b G S n = b e - G (S ^^^ 2 ^ e) ∧ (∀ j, j < e → S.testBit j = true → ¬ b j - G (S ^^^ 2 ^ j) = b e - G (S ^^^ 2 ^ e))
  | 0, _ => Or.inl ⟨rfl, rfl, fun j hj => absurd hj (by omega)⟩
  | n + 1, hn => by
    rcases gb_or b G S hB n (by omega) with ⟨h1, h2, h3⟩ | ⟨e, h1, h2, h3, h4, h5⟩
    · by_cases hb : S.testBit n = true
      · refine Or.inr ⟨n, by omega, hb, ?_, ?_, fun j hj hjb => by rw [h3 j hj] at hjb; cases hjb⟩
        · rw [gbV, h1, if_pos ⟨hb, Or.inl (by decide)⟩]
        · rw [gnS, if_pos hb, h2, mxF]
          have hx0 := hB n (by omega) hb
          generalize b n - G (S ^^^ 2 ^ n) = x at hx0 ⊢
          by_cases hx : (-1000000000 : Int32) < x
          · rw [if_pos hx]
          · rw [if_neg hx]
            have h1 := i_nlt hx
            have h3 : (-1000000000 : Int32).toInt = -1000000000 := rfl
            exact Int32.toInt_inj.mp (by omega)
      · refine Or.inl ⟨?_, ?_, fun j hj => ?_⟩
        · rw [gbV, if_neg (fun z => hb z.1), h1]
        · rw [gnS, if_neg hb, h2]
        · by_cases hjn : j = n
          · rw [hjn]; exact Bool.not_eq_true _ ▸ hb
          · exact h3 j (by omega)
    · by_cases hb : S.testBit n = true
      · by_cases hl : b e - G (S ^^^ 2 ^ e) < b n - G (S ^^^ 2 ^ n)
        · refine Or.inr ⟨n, by omega, hb, ?_, ?_, fun j hj hjb z => ?_⟩
          · rw [gbV, h3, nI_c (by omega), if_pos ⟨hb, Or.inr hl⟩]
          · rw [gnS, if_pos hb, h4, mxF, if_pos hl]
          · have hm : ∀ m, m ≤ n → ∀ j, j < m → S.testBit j = true → ¬ gnS b G S m < b j - G (S ^^^ 2 ^ j) := by
              intro m
              induction m with
              | zero => intro _ j hj; omega
              | succ m ih =>
                intro hm j hj hjb hz
                rw [gnS] at hz
                by_cases hmb : S.testBit m = true
                · rw [if_pos hmb, mxF] at hz
                  by_cases hjm : j = m
                  · subst hjm
                    split at hz
                    · exact absurd (i_lt hz) (Int.lt_irrefl _)
                    · rename_i hq; exact hq hz
                  · have ih2 := ih (by omega) j (by omega) hjb
                    split at hz
                    · rename_i hq
                      exact ih2 (Int32.lt_iff_toInt_lt.mpr (by have := i_lt hq; have := i_lt hz; omega))
                    · exact ih2 hz
                · rw [if_neg hmb] at hz
                  have hjm : j ≠ m := fun q => hmb (q ▸ hjb)
                  exact ih (by omega) j (by omega) hjb hz
            have := hm n (Nat.le_refl _) j hj hjb
            rw [h4, z] at this
            exact this hl
        · refine Or.inr ⟨e, by omega, h2, ?_, ?_, h5⟩
          · rw [gbV, h3, nI_c (by omega), if_neg (fun z => z.2.elim (fun q => nI_l0 (by omega) q) hl)]
          · rw [gnS, if_pos hb, h4, mxF, if_neg hl]
      · refine Or.inr ⟨e, by omega, h2, ?_, ?_, h5⟩
        · rw [gbV, if_neg (fun z => hb z.1), h3]
        · rw [gnS, if_neg hb, h4]
theorem gn_w {b G : Nat → Int32} (hb : ∀ e, 0 ≤ (b e).toInt ∧ (b e).toInt ≤ 99) {S e : Nat} (hS : S < 64) (he : e < 6) (hbt : S.testBit e = true) (hG : -(99 * ((S ^^^ 2 ^ e : Nat) : Int)) ≤ (G (S ^^^ 2 ^ e)).toInt ∧ (G (S ^^^ 2 ^ e)).toInt ≤ 99 * ((S ^^^ 2 ^ e : Nat) : Int)) : -(99 * (S : Int)) ≤ (b e - G (S ^^^ 2 ^ e)).toInt ∧ (b e - G (S ^^^ 2 ^ e)).toInt ≤ 99 * (S : Int) := by
  have h1 := xr_lt S hS e he hbt
  generalize S ^^^ 2 ^ e = Q at hG h1 ⊢
  have h2 := hb e
  have h3 : (b e - G Q).toInt = (b e).toInt - (G Q).toInt := i_subI (by omega) (by omega)
  rw [h3]
  omega
/-- no set gains more, or less, than so much: the sets are gone through from below -/
theorem gn_r {b : Nat → Int32} (hb : ∀ e, 0 ≤ (b e).toInt ∧ (b e).toInt ≤ 99) {n : Nat} : ∀ S, S ≤ n → S < 64 → -(99 * (S : Int)) ≤ (gnT b n S).toInt ∧ (gnT b n S).toInt ≤ 99 * (S : Int) := by
  intro S
  induction S using Nat.strongRecOn with
  | ind S ih =>
    intro hn hS
    by_cases h0 : S = 0
    · subst h0
      rw [gnT_lo b hn]
      show -(99 * ((0 : Nat) : Int)) ≤ (0 : Int32).toInt ∧ (0 : Int32).toInt ≤ 99 * ((0 : Nat) : Int)
      decide
    · have hw : ∀ e, e < 6 → S.testBit e = true → -(99 * (S : Int)) ≤ (b e - gnT b n (S ^^^ 2 ^ e)).toInt ∧ (b e - gnT b n (S ^^^ 2 ^ e)).toInt ≤ 99 * (S : Int) := fun e he hbt => by
        have h1 := xr_lt S hS e he hbt
        exact gn_w hb hS he hbt (ih _ h1 (by omega) (by omega))
      rw [gnT_at b hn h0 hS]
      rcases gb_or b (gnT b n) S (fun e he hbt => by have := (hw e he hbt).1; omega) 6 (by decide) with ⟨g1, g2, g3⟩ | ⟨e, g1, g2, g3, g4, g5⟩
      · exact absurd (Nat.eq_of_testBit_eq (x := S) (y := 0) (fun i => by
          rw [Nat.zero_testBit]
          by_cases hi : i < 6
          · exact g3 i hi
          · exact Nat.testBit_lt_two_pow (Nat.lt_of_lt_of_le hS (Nat.pow_le_pow_right (by decide) (show 6 ≤ i by omega) : 2 ^ 6 ≤ 2 ^ i)))) h0
      · rw [g4]
        exact hw e g1 g2
theorem gn_B {b : Nat → Int32} (hb : ∀ e, 0 ≤ (b e).toInt ∧ (b e).toInt ≤ 99) {n S : Nat} (hn : S ≤ n) (hS : S < 64) (e : Nat) (he : e < 6) (hbt : S.testBit e = true) : -1000000000 ≤ (b e - gnT b n (S ^^^ 2 ^ e)).toInt := by
  have h1 := xr_lt S hS e he hbt
  have := (gn_w hb hS he hbt (gn_r hb _ (by omega) (by omega) : _ ≤ (gnT b n (S ^^^ 2 ^ e)).toInt ∧ _)).1
  omega
theorem gb_hi {g : Nat → Int32} {S n : Nat} (h : ∀ j, n ≤ j → S.testBit j = false) : ∀ {m : Nat}, n ≤ m → gbV g S m = gbV g S n
  | 0, hm => by rw [Nat.le_zero.mp hm]
  | m + 1, hm => by
    rcases Nat.lt_or_ge m n with h1 | h1
    · rw [show n = m + 1 by omega]
    · rw [gbV, if_neg (fun z => by rw [h m h1] at z; exact absurd z.1 (by decide)), gb_hi h h1]
theorem fst_at {p : Nat → Bool} {e : Nat} (hp : p e = true) : ∀ (n k : Nat), k ≤ e → e < k + n → (∀ j, k ≤ j → j < e → p j = false) → fstV p k n = nI e
  | 0, k, h1, h2, _ => by omega
  | n + 1, k, h1, h2, hn => by
    rw [fstV]
    by_cases hk : k = e
    · rw [hk, hp, if_pos rfl]
    · rw [hn k (Nat.le_refl _) (by omega), if_neg (by decide)]
      exact fst_at hp n (k + 1) (by omega) (by omega) (fun j a b => hn j (by omega) b)
section
variable (d : Nat) (fm : Value) (X : Nat × (Nat → Int32)) (s T : Nat → Nat → Int32) (t : Nat → Nat → Int64)
variable {lv nc nd nt : Nat} {PT PG PB PF : List (List Ins)}
theorem t_Mo_gameWith (hC : RC s lv T nc nd nt PT PG PB PF) (hI : SI (vR T nc nd (s 115)) nc nd nt) {S e : Nat} (hS : S < 64) (he : e < nd) (hb : S.testBit e = true) : ab_T g_Mo_gameWith (d + 3) (0, 0) [.ref 81, .int (nI S), .int (nI e)] (HA fm X s t) (PR w1 (bdV (vR T nc nd (s 115)) PB PF nd e 0 - s 123 (S ^^^ 2 ^ e)) fm X s t) := by
  have h6 := hC.1.2.2.2.1.2
  have hlt := xr_lt S hS e (by omega) hb
  refine ab_T_of (M := m_Mo_gameWith) rfl rfl (Nat.le_of_ble_eq_true rfl) ?_
  show ab_Z m_Mo_gameWith _ _ _ 0 [_, _, _] [] _
  refine ab_go ok_Mo_gameWith 2 rfl ?_
  show ab_Z m_Mo_gameWith _ _ _ 2 [_, _, _] [_, _] _
  refine ab_cl ok_Mo_gameWith rfl [_, _] [] rfl ⟨_, _, rfl, rfl, Or.inl ⟨_, _, rfl, rfl⟩⟩ (Nat.le_of_ble_eq_true rfl) (t_Mo_bindsOf d fm X s T t hC hI he) ?_
  rintro _ _ ⟨rfl, s1, rfl, k1⟩
  show ab_Z m_Mo_gameWith _ _ _ 3 [_, _, _] [_] _
  refine ab_go ok_Mo_gameWith 9 rfl ?_
  show ab_Z m_Mo_gameWith _ _ _ 12 [_, _, _] [_, _, _] _
  rw [nI_shl e (by omega), an_nI hS, an_x S hS e (by omega) hb]
  refine ab_ia ok_Mo_gameWith rfl rfl (k := (S ^^^ 2 ^ e)) (by first | rfl | (simp only [LL1, LL2, LL3, LL4, LL5, LL6, LL7, LL8, LL10, LL15, LL18, LL20, LL21, LL22, LL23, LL24, LL32, LL39, LL40, LL130, LL420, pk_mul, nI_add]; done) | (simp only [LL1, LL2, LL3, LL4, LL5, LL6, LL7, LL8, LL10, LL15, LL18, LL20, LL21, LL22, LL23, LL24, LL32, LL39, LL40, LL130, LL420, pk_mul, nI_add]; congr 1; omega)) (by omega) (Nat.le_of_ble_eq_true rfl) ?_
  show ab_Z m_Mo_gameWith _ _ _ 13 [_, _, _] [_, _] _
  refine ab_go ok_Mo_gameWith 1 rfl ?_
  show ab_Z m_Mo_gameWith _ _ _ 14 [_, _, _] [_] _
  exact ab_rI ok_Mo_gameWith rfl (⟨by rw [k1 123 _ rfl], s1, rfl, k1⟩)
theorem t_Mo_gameBest (hC : RC s lv T nc nd nt PT PG PB PF) (hI : SI (vR T nc nd (s 115)) nc nd nt) {S : Nat} (hS : S < 64) (g : Nat → Int32) (hg : ∀ e, e < nd → S.testBit e = true → bdV (vR T nc nd (s 115)) PB PF nd e 0 - s 123 (S ^^^ 2 ^ e) = g e) : ab_T g_Mo_gameBest (d + 4) (0, 0) [.ref 81, .int (nI S)] (HA fm X s t) (PR w1 (gbV g S nd) fm X s t) := by
  have h6 := hC.1.2.2.2.1.2
  have hlv := hC.1.2.1
  have hcl : ∀ s2, Kr w1 s s2 → ∀ e, e < nd → S.testBit e = true → ab_T g_Mo_gameWith (d + 3) (0, 0) [.ref 81, .int (nI S), .int (nI e)] (HA fm X s2 t) (fun v h => v = some (.int (g e)) ∧ ∃ s', h = HA fm X s' t ∧ Kr w1 s s') := by
    intro s2 k2 e he hb
    have hv : vR T nc nd (s2 115) = vR T nc nd (s 115) := by rw [k2.row (c := 115) (fun _ => rfl)]
    refine ab_T_mono (t_Mo_gameWith d fm X s2 T t (hC.k k2.m14) (by rw [hv]; exact hI) hS he hb) fun v h hp => ?_
    obtain ⟨rfl, s', rfl, hk⟩ := hp
    exact ⟨by rw [hv, k2 123 _ rfl, hg e he hb], s', rfl, k2.tr hk⟩
  have hgo : ∀ n, n ≤ 6 → gbV g S n = -2 ∨ ∃ e, e < n ∧ S.testBit e = true ∧ gbV g S n = nI e := by
    intro n
    induction n with
    | zero => intro _; exact Or.inl rfl
    | succ n ih =>
      intro hn
      rw [gbV]
      by_cases hz : S.testBit n = true ∧ (gbV g S n < 0 ∨ g (gbV g S n).toNatClampNeg < g n)
      · rw [if_pos hz]; exact Or.inr ⟨n, by omega, hz.1, rfl⟩
      · rw [if_neg hz]
        rcases ih (by omega) with h | ⟨e, h1, h2, h3⟩
        · exact Or.inl h
        · exact Or.inr ⟨e, by omega, h2, h3⟩
  refine ab_T_of (M := m_Mo_gameBest) rfl rfl (Nat.le_of_ble_eq_true rfl) ?_
  show ab_Z m_Mo_gameBest _ _ _ 0 [_, _, _, _] [] _
  refine ab_go ok_Mo_gameBest 4 rfl ?_
  show ab_Z m_Mo_gameBest _ _ _ 4 [_, _, _, _] [] _
  refine lp_dn nd (fun k => ∀ s2, Kr w1 s s2 → ab_Z m_Mo_gameBest (d + 4) (0, 0) (PR w1 (gbV g S nd) fm X s t) 4 [some (.ref 81), some (.int (nI S)), some (.int (gbV g S k)), some (.int (nI k))] [] (HA fm X s2 t)) ?_ ?_ s (Kr.rf w1 s)
  · intro s2 k2
    have hC2 := hC.k k2.m14
    refine ab_go ok_Mo_gameBest 5 rfl ?_
    show ab_Z m_Mo_gameBest _ _ _ 9 [_, _, _, _] [_, _, _] _
    rw [hC2.1.1]
    refine ab_ia ok_Mo_gameBest rfl rfl (k := lv) (by first | rfl | (simp only [LL1, LL2, LL3, LL4, LL5, LL6, LL7, LL8, LL10, LL15, LL18, LL20, LL21, LL22, LL23, LL24, LL32, LL39, LL40, LL130, LL420, pk_mul, nI_add]; done) | (simp only [LL1, LL2, LL3, LL4, LL5, LL6, LL7, LL8, LL10, LL15, LL18, LL20, LL21, LL22, LL23, LL24, LL32, LL39, LL40, LL130, LL420, pk_mul, nI_add]; congr 1; omega)) (by omega) (Nat.le_of_ble_eq_true rfl) ?_
    show ab_Z m_Mo_gameBest _ _ _ 10 [_, _, _, _] [_, _] _
    rw [hC2.1.2.2.2.1.1]
    refine ab_br ok_Mo_gameBest rfl rfl ?_ ?_
    · intro h1
      show ab_Z m_Mo_gameBest _ _ _ 33 [_, _, _, _] [] _
      refine ab_go ok_Mo_gameBest 1 rfl ?_
      show ab_Z m_Mo_gameBest _ _ _ 34 [_, _, _, _] [_] _
      exact ab_rI ok_Mo_gameBest rfl (⟨rfl, s2, rfl, k2⟩)
    · intro h1
      show ab_Z m_Mo_gameBest _ _ _ 11 [_, _, _, _] [] _
      exact absurd (lp_out nd) h1
  · intro k hk ih s2 k2
    have hC2 := hC.k k2.m14
    rw [gbV, nI_succ k] at ih
    refine ab_go ok_Mo_gameBest 5 rfl ?_
    show ab_Z m_Mo_gameBest _ _ _ 9 [_, _, _, _] [_, _, _] _
    rw [hC2.1.1]
    refine ab_ia ok_Mo_gameBest rfl rfl (k := lv) (by first | rfl | (simp only [LL1, LL2, LL3, LL4, LL5, LL6, LL7, LL8, LL10, LL15, LL18, LL20, LL21, LL22, LL23, LL24, LL32, LL39, LL40, LL130, LL420, pk_mul, nI_add]; done) | (simp only [LL1, LL2, LL3, LL4, LL5, LL6, LL7, LL8, LL10, LL15, LL18, LL20, LL21, LL22, LL23, LL24, LL32, LL39, LL40, LL130, LL420, pk_mul, nI_add]; congr 1; omega)) (by omega) (Nat.le_of_ble_eq_true rfl) ?_
    show ab_Z m_Mo_gameBest _ _ _ 10 [_, _, _, _] [_, _] _
    rw [hC2.1.2.2.2.1.1]
    refine ab_br ok_Mo_gameBest rfl rfl ?_ ?_
    · intro h1
      show ab_Z m_Mo_gameBest _ _ _ 33 [_, _, _, _] [] _
      exact absurd h1 (lp_in (by omega) hk)
    · intro h1
      show ab_Z m_Mo_gameBest _ _ _ 11 [_, _, _, _] [] _
      refine ab_go ok_Mo_gameBest 6 rfl ?_
      show ab_Z m_Mo_gameBest _ _ _ 17 [_, _, _, _] [_, _] _
      rw [sh_bit S hS k (by omega)]
      refine ab_br ok_Mo_gameBest rfl rfl ?_ ?_
      · intro h2
        show ab_Z m_Mo_gameBest _ _ _ 18 [_, _, _, _] [] _
        have hb : S.testBit k = true := by
          cases hx : S.testBit k
          · rw [hx] at h2; exact absurd h2 (by decide)
          · rfl
        clear h2
        refine ab_go ok_Mo_gameBest 1 rfl ?_
        show ab_Z m_Mo_gameBest _ _ _ 19 [_, _, _, _] [_] _
        rcases hgo k (by omega) with hm | ⟨e, he1, he2, he3⟩
        · rw [hm] at ih ⊢
          rw [if_pos ⟨hb, Or.inl (by decide)⟩] at ih
          refine ab_go ok_Mo_gameBest 1 rfl ?_
          show ab_Z m_Mo_gameBest _ _ _ 29 [_, _, _, _] [] _
          refine ab_go ok_Mo_gameBest 4 rfl ?_
          show ab_Z m_Mo_gameBest _ _ _ 4 [_, _, _, _] [] _
          exact ih s2 k2
        · rw [he3] at ih ⊢
          rw [nI_c (by omega)] at ih
          refine ab_br ok_Mo_gameBest rfl rfl ?_ ?_
          · intro h3
            show ab_Z m_Mo_gameBest _ _ _ 29 [_, _, _, _] [] _
            exact absurd h3 (nI_l0 (by omega))
          · intro h3
            show ab_Z m_Mo_gameBest _ _ _ 20 [_, _, _, _] [] _
            refine ab_go ok_Mo_gameBest 3 rfl ?_
            show ab_Z m_Mo_gameBest _ _ _ 23 [_, _, _, _] [_, _, _] _
            refine ab_cl ok_Mo_gameBest rfl [_, _, _] [] rfl ⟨_, _, rfl, rfl, Or.inl ⟨_, _, rfl, rfl⟩⟩ (Nat.le_of_ble_eq_true rfl) (hcl s2 k2 k hk hb) ?_
            rintro _ _ ⟨rfl, s3, rfl, k3⟩
            show ab_Z m_Mo_gameBest _ _ _ 24 [_, _, _, _] [_] _
            refine ab_go ok_Mo_gameBest 3 rfl ?_
            show ab_Z m_Mo_gameBest _ _ _ 27 [_, _, _, _] [_, _, _, _] _
            refine ab_cl ok_Mo_gameBest rfl [_, _, _] [_] rfl ⟨_, _, rfl, rfl, Or.inl ⟨_, _, rfl, rfl⟩⟩ (Nat.le_of_ble_eq_true rfl) (hcl s3 k3 e (by omega) he2) ?_
            rintro _ _ ⟨rfl, s4, rfl, k4⟩
            show ab_Z m_Mo_gameBest _ _ _ 28 [_, _, _, _] [_, _] _
            refine ab_br ok_Mo_gameBest rfl rfl ?_ ?_
            · intro h4
              show ab_Z m_Mo_gameBest _ _ _ 31 [_, _, _, _] [] _
              have ih2 := ih s4 k4
              rw [if_neg (fun z => z.2.elim (fun q => nI_l0 (by omega) q) (fun q => by have := i_lt q; have := i_le h4; omega))] at ih2
              refine ab_go ok_Mo_gameBest 2 rfl ?_
              show ab_Z m_Mo_gameBest _ _ _ 4 [_, _, _, _] [] _
              exact ih2
            · intro h4
              show ab_Z m_Mo_gameBest _ _ _ 29 [_, _, _, _] [] _
              have ih2 := ih s4 k4
              rw [if_pos ⟨hb, Or.inr (Int32.lt_iff_toInt_lt.mpr (i_nle h4))⟩] at ih2
              refine ab_go ok_Mo_gameBest 4 rfl ?_
              show ab_Z m_Mo_gameBest _ _ _ 4 [_, _, _, _] [] _
              exact ih2
      · intro h2
        show ab_Z m_Mo_gameBest _ _ _ 31 [_, _, _, _] [] _
        have hb : ¬ S.testBit k = true := fun z => by rw [z] at h2; exact h2 rfl
        have ih2 := ih s2 k2
        rw [if_neg (fun z => hb z.1)] at ih2
        refine ab_go ok_Mo_gameBest 2 rfl ?_
        show ab_Z m_Mo_gameBest _ _ _ 4 [_, _, _, _] [] _
        exact ih2
theorem t_Mo_game (hC : RC s lv T nc nd nt PT PG PB PF) (hQ : QI (vR T nc nd (s 114)) nc nd nt) (w : Int32) : ab_T g_Mo_game (d + 5) (0, 0) [.ref 81, .int w] (HA fm X s t) (PR w4 (if w = 0 ∨ w = 1 then (if w = 0 then gnT (fun e => bdV (vR T nc nd (s 114)) PB PF nd e 0) (cloN (vR T nc nd (s 114)) nd) (cloN (vR T nc nd (s 114)) nd) else fstV (pickB (fun e => bdV (vR T nc nd (s 114)) PB PF nd e 0) (gnT (fun e => bdV (vR T nc nd (s 114)) PB PF nd e 0) (cloN (vR T nc nd (s 114)) nd)) (cloN (vR T nc nd (s 114)) nd)) 0 6) else -100000) fm X s t) := by
  have h5 := hC.1.2.2.1.2
  have h6 := hC.1.2.2.2.1.2
  have hlv := hC.1.2.1
  refine ab_T_of (M := m_Mo_game) rfl rfl (Nat.le_of_ble_eq_true rfl) ?_
  show ab_Z m_Mo_game _ _ _ 0 [_, _, _, _] [] _
  refine ab_go ok_Mo_game 3 rfl ?_
  show ab_Z m_Mo_game _ _ _ 3 [_, _, _, _] [_, _, _] _
  refine ab_cl ok_Mo_game rfl [_, _, _] [] rfl rfl (Nat.le_of_ble_eq_true rfl) (t_Mo_in (d + 4) _ w 0 1) ?_
  rintro _ _ ⟨rfl, rfl⟩
  show ab_Z m_Mo_game _ _ _ 4 [_, _, _, _] [_] _
  rw [bI_c (in01 w)]
  refine ab_br ok_Mo_game rfl rfl ?_ ?_
  · intro h1
    show ab_Z m_Mo_game _ _ _ 5 [_, _, _, _] [] _
    refine ab_go ok_Mo_game 1 rfl ?_
    show ab_Z m_Mo_game _ _ _ 6 [_, _, _, _] [_] _
    exact ab_rI ok_Mo_game rfl (⟨by rw [if_neg (bI_0.mp h1)], s, rfl, Kr.rf w4 s⟩)
  · intro h1
    show ab_Z m_Mo_game _ _ _ 7 [_, _, _, _] [] _
    have hw := bI_n0 h1
    rw [if_pos hw]
    refine ab_go ok_Mo_game 1 rfl ?_
    show ab_Z m_Mo_game _ _ _ 8 [_, _, _, _] [_] _
    refine ab_cl ok_Mo_game rfl [_] [] rfl ⟨_, _, rfl, rfl, Or.inl ⟨_, _, rfl, rfl⟩⟩ (Nat.le_of_ble_eq_true rfl) (t_Mo_copies' (d + 4) fm X s T t hC) ?_
    rintro _ _ ⟨rfl, s1, rfl, k1, hC1, hv1, hl1, h40⟩
    show ab_Z m_Mo_game _ _ _ 9 [_, _, _, _] [] _
    rw [← hv1] at hQ ⊢
    obtain ⟨V, hVV⟩ : ∃ V, V = vR T nc nd (s1 115) := ⟨_, rfl⟩
    rw [← hVV] at hQ ⊢
    obtain ⟨b, hb⟩ : ∃ b : Nat → Int32, b = fun e => bdV V PB PF nd e 0 := ⟨_, rfl⟩
    rw [← hb]
    obtain ⟨A, hA⟩ : ∃ A, A = cloN V nd := ⟨_, rfl⟩
    rw [← hA]
    have hA6 : A < 64 := by rw [hA]; exact cloN_lt V h6
    have hAn : ∀ j, nd ≤ j → A.testBit j = false := fun j hj => by rw [hA, cloN, tb_bitsN, decide_eq_false (by omega), Bool.false_and]
    obtain ⟨G, hG⟩ : ∃ G, G = gnT b A := ⟨_, rfl⟩
    rw [← hG]
    have hBd : ∀ S, S ≤ A → S < 64 → ∀ e, e < 6 → S.testBit e = true → -1000000000 ≤ (b e - G (S ^^^ 2 ^ e)).toInt := by
      rw [hG]
      exact fun S h1 h2 => gn_B (fun e => by rw [hb]; exact bdV_r V PB PF nd e 0) h1 h2
    generalize hPo : PR w4 (if w = 0 then G A else fstV (pickB b G A) 0 6) fm X s t = Po
    have hsub : ∀ S, S < 64 → S &&& A = S → ∀ e, S.testBit e = true → A.testBit e = true := fun S _ h e he => by
      rw [← h, Nat.testBit_and, Bool.and_eq_true] at he
      exact he.2
    have hbest : ∀ S, S < 64 → S &&& A = S → ∀ s2, Kr w4 s1 s2 → s2 115 = s1 115 → (∀ Q, Q < S → Q &&& A = Q → s2 123 Q = G Q) → ab_T g_Mo_gameBest (d + 4) (0, 0) [.ref 81, .int (nI S)] (HA fm X s2 t) (fun v h => v = some (.int (gbV (fun e => b e - G (S ^^^ 2 ^ e)) S 6)) ∧ ∃ s', h = HA fm X s' t ∧ Kr w1 s2 s') := by
      intro S hS hSA s2 k2 h115 h123
      have hv : vR T nc nd (s2 115) = V := by rw [h115, hVV]
      refine ab_T_mono (t_Mo_gameBest d fm X s2 T t (hC1.k k2) (by rw [hv]; exact hQ.1) hS (fun e => b e - G (S ^^^ 2 ^ e)) (fun e he hbt => ?_)) fun v h hp => ?_
      · rw [hv, hb, h123 _ (xr_lt S hS e (by omega) hbt) (xr_sub S hS e (by omega) A hA6 hSA hbt)]
      · obtain ⟨rfl, s', rfl, hk⟩ := hp
        refine ⟨?_, s', rfl, hk⟩
        rw [gb_hi (n := nd) (m := 6) (fun j hj => ?_) h6]
        cases hx : S.testBit j
        · rfl
        · have := hsub S hS hSA j hx
          rw [hAn j hj] at this
          cases this
    refine ab_go ok_Mo_game 4 rfl ?_
    show ab_Z m_Mo_game _ _ _ 13 [_, _, _, _] [] _
    refine lp_dn nd (fun k => ab_Z m_Mo_game (d + 5) (0, 0) Po 13 [some (.ref 81), some (.int w), some (.int (nI (bitsN (fun e => !decide (V 11 (33 + e) = -2)) k))), some (.int (nI k))] [] (HA fm X s1 t)) ?_ ?_
    · refine ab_go ok_Mo_game 5 rfl ?_
      show ab_Z m_Mo_game _ _ _ 18 [_, _, _, _] [_, _, _] _
      rw [hC1.1.1]
      refine ab_ia ok_Mo_game rfl rfl (k := lv) (by first | rfl | (simp only [LL1, LL2, LL3, LL4, LL5, LL6, LL7, LL8, LL10, LL15, LL18, LL20, LL21, LL22, LL23, LL24, LL32, LL39, LL40, LL130, LL420, pk_mul, nI_add]; done) | (simp only [LL1, LL2, LL3, LL4, LL5, LL6, LL7, LL8, LL10, LL15, LL18, LL20, LL21, LL22, LL23, LL24, LL32, LL39, LL40, LL130, LL420, pk_mul, nI_add]; congr 1; omega)) (by omega) (Nat.le_of_ble_eq_true rfl) ?_
      show ab_Z m_Mo_game _ _ _ 19 [_, _, _, _] [_, _] _
      rw [hC1.1.2.2.2.1.1]
      refine ab_br ok_Mo_game rfl rfl ?_ ?_
      · intro h2
        show ab_Z m_Mo_game _ _ _ 36 [_, _, _, _] [] _
        rw [show bitsN (fun e => !decide (V 11 (33 + e) = -2)) nd = A from hA.symm]
        refine ab_go ok_Mo_game 4 rfl ?_
        show ab_Z m_Mo_game _ _ _ 40 [_, _, _, _] [_, _, _] _
        refine ab_go ok_Mo_game 1 rfl ?_
        show ab_Z m_Mo_game _ _ _ 41 [_, _, _, _] [] _
        refine ab_go ok_Mo_game 2 rfl ?_
        show ab_Z m_Mo_game _ _ _ 43 [_, _, _, _] [] _
        refine lp_dn A (fun k => ∀ s2, Kr w4 s1 s2 → s2 115 = s1 115 → (∀ Q, Q ≤ k → Q &&& A = Q → s2 123 Q = G Q) → ab_Z m_Mo_game (d + 5) (0, 0) Po 43 [some (.ref 81), some (.int w), some (.int (nI A)), some (.int (nI (k + 1)))] [] (HA fm X s2 t)) ?_ ?_ (ab_up s1 123 0 0) (Kr.up rfl (Kr.rf w4 s1)) (ab_up_o (by decide)) (fun Q hQ0 _ => by rw [Nat.le_zero.mp hQ0, hG, gnT_lo b (Nat.zero_le A)]; exact ab_up_s ..)
        · intro s2 k2 h115 h123
          refine ab_go ok_Mo_game 2 rfl ?_
          show ab_Z m_Mo_game _ _ _ 45 [_, _, _, _] [_, _] _
          refine ab_br ok_Mo_game rfl rfl ?_ ?_
          · intro h3
            show ab_Z m_Mo_game _ _ _ 64 [_, _, _, _] [] _
            refine ab_go ok_Mo_game 1 rfl ?_
            show ab_Z m_Mo_game _ _ _ 65 [_, _, _, _] [_] _
            refine ab_br ok_Mo_game rfl rfl ?_ ?_
            · intro h4
              show ab_Z m_Mo_game _ _ _ 66 [_, _, _, _] [] _
              have h4' : w = 0 := h4
              refine ab_go ok_Mo_game 3 rfl ?_
              show ab_Z m_Mo_game _ _ _ 69 [_, _, _, _] [_, _] _
              refine ab_ia ok_Mo_game rfl rfl (k := A) (by first | rfl | (simp only [LL1, LL2, LL3, LL4, LL5, LL6, LL7, LL8, LL10, LL15, LL18, LL20, LL21, LL22, LL23, LL24, LL32, LL39, LL40, LL130, LL420, pk_mul, nI_add]; done) | (simp only [LL1, LL2, LL3, LL4, LL5, LL6, LL7, LL8, LL10, LL15, LL18, LL20, LL21, LL22, LL23, LL24, LL32, LL39, LL40, LL130, LL420, pk_mul, nI_add]; congr 1; omega)) (by omega) (Nat.le_of_ble_eq_true rfl) ?_
              show ab_Z m_Mo_game _ _ _ 70 [_, _, _, _] [_] _
              refine ab_go ok_Mo_game 1 rfl ?_
              show ab_Z m_Mo_game _ _ _ 74 [_, _, _, _] [_] _
              have fin : Po (some (.int (s2 123 A))) (HA fm X s2 t) := by
                rw [← hPo, if_pos h4']
                exact ⟨by rw [h123 A (Nat.le_refl _) (Nat.and_self A)], s2, rfl, k1.m34.tr k2⟩
              exact ab_rI ok_Mo_game rfl (fin)
            · intro h4
              show ab_Z m_Mo_game _ _ _ 71 [_, _, _, _] [] _
              have h4' : ¬ w = 0 := h4
              refine ab_go ok_Mo_game 2 rfl ?_
              show ab_Z m_Mo_game _ _ _ 73 [_, _, _, _] [_, _] _
              refine ab_cl ok_Mo_game rfl [_, _] [] rfl ⟨_, _, rfl, rfl, Or.inl ⟨_, _, rfl, rfl⟩⟩ (Nat.le_of_ble_eq_true rfl) (hbest A hA6 (Nat.and_self A) s2 k2 h115 (fun Q hQ1 hQ2 => h123 Q (by omega) hQ2)) ?_
              rintro _ _ ⟨rfl, s3, rfl, k3⟩
              show ab_Z m_Mo_game _ _ _ 74 [_, _, _, _] [_] _
              have hpick : gbV (fun e => b e - G (A ^^^ 2 ^ e)) A 6 = fstV (pickB b G A) 0 6 := by
                rcases gb_or b G A (hBd A (Nat.le_refl _) hA6) 6 (by decide) with ⟨g1, g2, g3⟩ | ⟨e, g1, g2, g3, g4, g5⟩
                · rw [g1, fst_no _ 6 0 (fun j _ hj => by unfold pickB; rw [g3 j (by omega)]; rfl)]
                · have hA0 : A ≠ 0 := fun z => by rw [z, Nat.zero_testBit] at g2; cases g2
                  have hGA : G A = b e - G (A ^^^ 2 ^ e) := by rw [← g4, hG]; exact gnT_at b (Nat.le_refl _) hA0 hA6
                  rw [g3]
                  refine (fst_at (p := pickB b G A) (e := e) ?_ 6 0 (by omega) (by omega) (fun j _ hj => ?_)).symm
                  · unfold pickB
                    rw [g2, hGA, decide_eq_true rfl]
                    rfl
                  · unfold pickB
                    cases hx : A.testBit j
                    · rfl
                    · rw [hGA, decide_eq_false (g5 j hj hx)]
                      rfl
              have fin : Po (some (.int (gbV (fun e => b e - G (A ^^^ 2 ^ e)) A 6))) (HA fm X s3 t) := by
                rw [← hPo, if_neg h4']
                exact ⟨by rw [hpick], s3, rfl, k1.m34.tr (k2.tr k3.m14)⟩
              exact ab_rI ok_Mo_game rfl (fin)
          · intro h3
            show ab_Z m_Mo_game _ _ _ 46 [_, _, _, _] [] _
            have := i_nlt h3
            rw [nI_t (by omega), nI_t (by omega)] at this
            omega
        · intro k hk ih s2 k2 h115 h123
          have hS : k + 1 < 64 := by omega
          rw [nI_succ (k + 1)] at ih
          refine ab_go ok_Mo_game 2 rfl ?_
          show ab_Z m_Mo_game _ _ _ 45 [_, _, _, _] [_, _] _
          refine ab_br ok_Mo_game rfl rfl ?_ ?_
          · intro h3
            show ab_Z m_Mo_game _ _ _ 64 [_, _, _, _] [] _
            have := i_lt h3
            rw [nI_t (by omega), nI_t (by omega)] at this
            omega
          · intro h3
            show ab_Z m_Mo_game _ _ _ 46 [_, _, _, _] [] _
            refine ab_go ok_Mo_game 5 rfl ?_
            show ab_Z m_Mo_game _ _ _ 51 [_, _, _, _] [_] _
            rw [an_nI hS]
            refine ab_br ok_Mo_game rfl rfl ?_ ?_
            · intro h4
              show ab_Z m_Mo_game _ _ _ 52 [_, _, _, _] [] _
              have hSA : (k + 1) &&& A = k + 1 := (an_0 (k + 1) hS A hA6).mp ((nI_z (by have := anN_lt (k + 1) A; omega)).mp h4)
              refine ab_go ok_Mo_game 7 rfl ?_
              show ab_Z m_Mo_game _ _ _ 59 [_, _, _, _] [_, _, _, _, _, _] _
              refine ab_cl ok_Mo_game rfl [_, _] [_, _, _, _] rfl ⟨_, _, rfl, rfl, Or.inl ⟨_, _, rfl, rfl⟩⟩ (Nat.le_of_ble_eq_true rfl) (hbest (k + 1) hS hSA s2 k2 h115 (fun Q hQ1 hQ2 => h123 Q (by omega) hQ2)) ?_
              rintro _ _ ⟨rfl, s3, rfl, k3⟩
              show ab_Z m_Mo_game _ _ _ 60 [_, _, _, _] [_, _, _, _, _] _
              rcases gb_or b G (k + 1) (hBd (k + 1) (by omega) hS) 6 (by decide) with ⟨g1, g2, g3⟩ | ⟨e, g1, g2, g3, g4, g5⟩
              · exact absurd (Nat.eq_of_testBit_eq (x := k + 1) (y := 0) (fun i => by
                  rw [Nat.zero_testBit]
                  by_cases hi : i < 6
                  · exact g3 i hi
                  · exact Nat.testBit_lt_two_pow (Nat.lt_of_lt_of_le hS (Nat.pow_le_pow_right (by decide) (show 6 ≤ i by omega) : 2 ^ 6 ≤ 2 ^ i)))) (by omega)
              · have hee : e < nd := by
                  rcases Nat.lt_or_ge e nd with h | h
                  · exact h
                  · have := hsub (k + 1) hS hSA e g2
                    rw [hAn e h] at this
                    cases this
                rw [g3]
                have hv3 : vR T nc nd (s3 115) = V := by rw [k3.row (c := 115) (fun _ => rfl), h115, hVV]
                refine ab_cl ok_Mo_game rfl [_, _, _] [_, _] rfl ⟨_, _, rfl, rfl, Or.inl ⟨_, _, rfl, rfl⟩⟩ (Nat.le_of_ble_eq_true rfl) (t_Mo_gameWith (d + 1) fm X s3 T t (hC1.k (k2.tr k3.m14)) (by rw [hv3]; exact hQ.1) hS hee g2) ?_
                rintro _ _ ⟨rfl, s4, rfl, k4⟩
                show ab_Z m_Mo_game _ _ _ 61 [_, _, _, _] [_, _, _] _
                rw [hv3, k3 123 _ rfl, h123 _ (by have := xr_lt (k + 1) hS e (by omega) g2; omega) (xr_sub (k + 1) hS e (by omega) A hA6 hSA g2), show bdV V PB PF nd e 0 - G ((k + 1) ^^^ 2 ^ e) = G (k + 1) from by rw [show G (k + 1) = gnS b G (k + 1) 6 from by rw [hG]; exact gnT_at b (by omega) (by omega) hS, g4, hb]]
                refine ab_is ok_Mo_game rfl rfl (k := (k + 1)) (by first | rfl | (simp only [LL1, LL2, LL3, LL4, LL5, LL6, LL7, LL8, LL10, LL15, LL18, LL20, LL21, LL22, LL23, LL24, LL32, LL39, LL40, LL130, LL420, pk_mul, nI_add]; done) | (simp only [LL1, LL2, LL3, LL4, LL5, LL6, LL7, LL8, LL10, LL15, LL18, LL20, LL21, LL22, LL23, LL24, LL32, LL39, LL40, LL130, LL420, pk_mul, nI_add]; congr 1; omega)) (by omega) (Nat.le_of_ble_eq_true rfl) ?_
                show ab_Z m_Mo_game _ _ _ 62 [_, _, _, _] [] _
                refine ab_go ok_Mo_game 2 rfl ?_
                show ab_Z m_Mo_game _ _ _ 43 [_, _, _, _] [] _
                exact ih _ (Kr.up rfl ((k2.tr k3.m14).tr k4.m14)) (by rw [ab_up_o (by decide), k4.row (c := 115) (fun _ => rfl), k3.row (c := 115) (fun _ => rfl), h115]) (fun Q hQ1 hQ2 => by
                  by_cases hQk : Q = k + 1
                  · subst hQk; exact ab_up_s ..
                  · rw [ab_up_n hQk, k4 123 _ rfl, k3 123 _ rfl]
                    exact h123 Q (by omega) hQ2)
            · intro h4
              show ab_Z m_Mo_game _ _ _ 62 [_, _, _, _] [] _
              refine ab_go ok_Mo_game 2 rfl ?_
              show ab_Z m_Mo_game _ _ _ 43 [_, _, _, _] [] _
              refine ih s2 k2 h115 (fun Q hQ1 hQ2 => ?_)
              by_cases hQk : Q = k + 1
              · subst hQk
                exact absurd (by rw [(an_0 (k + 1) hS A hA6).mpr hQ2]; rfl) h4
              · exact h123 Q (by omega) hQ2
      · intro h2
        show ab_Z m_Mo_game _ _ _ 20 [_, _, _, _] [] _
        exact absurd (lp_out nd) h2
    · intro k hk ih
      rw [nI_succ k] at ih
      refine ab_go ok_Mo_game 5 rfl ?_
      show ab_Z m_Mo_game _ _ _ 18 [_, _, _, _] [_, _, _] _
      rw [hC1.1.1]
      refine ab_ia ok_Mo_game rfl rfl (k := lv) (by first | rfl | (simp only [LL1, LL2, LL3, LL4, LL5, LL6, LL7, LL8, LL10, LL15, LL18, LL20, LL21, LL22, LL23, LL24, LL32, LL39, LL40, LL130, LL420, pk_mul, nI_add]; done) | (simp only [LL1, LL2, LL3, LL4, LL5, LL6, LL7, LL8, LL10, LL15, LL18, LL20, LL21, LL22, LL23, LL24, LL32, LL39, LL40, LL130, LL420, pk_mul, nI_add]; congr 1; omega)) (by omega) (Nat.le_of_ble_eq_true rfl) ?_
      show ab_Z m_Mo_game _ _ _ 19 [_, _, _, _] [_, _] _
      rw [hC1.1.2.2.2.1.1]
      refine ab_br ok_Mo_game rfl rfl ?_ ?_
      · intro h2
        show ab_Z m_Mo_game _ _ _ 36 [_, _, _, _] [] _
        exact absurd h2 (lp_in (by omega) hk)
      · intro h2
        show ab_Z m_Mo_game _ _ _ 20 [_, _, _, _] [] _
        refine ab_go ok_Mo_game 5 rfl ?_
        show ab_Z m_Mo_game _ _ _ 25 [_, _, _, _] [_, _] _
        refine ab_ia ok_Mo_game rfl rfl (k := (15 + k)) (by first | rfl | (simp only [LL1, LL2, LL3, LL4, LL5, LL6, LL7, LL8, LL10, LL15, LL18, LL20, LL21, LL22, LL23, LL24, LL32, LL39, LL40, LL130, LL420, pk_mul, nI_add]; done) | (simp only [LL1, LL2, LL3, LL4, LL5, LL6, LL7, LL8, LL10, LL15, LL18, LL20, LL21, LL22, LL23, LL24, LL32, LL39, LL40, LL130, LL420, pk_mul, nI_add]; congr 1; omega)) (by omega) (Nat.le_of_ble_eq_true rfl) ?_
        show ab_Z m_Mo_game _ _ _ 26 [_, _, _, _] [_] _
        refine ab_go ok_Mo_game 1 rfl ?_
        show ab_Z m_Mo_game _ _ _ 27 [_, _, _, _] [_, _] _
        have hvs : V 11 (33 + k) = s1 115 (15 + k) := by rw [hVV, vR_s h5 h6 hk]
        refine ab_br ok_Mo_game rfl rfl ?_ ?_
        · intro h3
          show ab_Z m_Mo_game _ _ _ 34 [_, _, _, _] [] _
          have h3' : s1 115 (15 + k) = -2 := h3
          rw [bitsN_no (fun e => !decide (V 11 (33 + e) = -2)) (by rw [decide_eq_true (hvs.trans h3')]; rfl)] at ih
          refine ab_go ok_Mo_game 2 rfl ?_
          show ab_Z m_Mo_game _ _ _ 13 [_, _, _, _] [] _
          exact ih
        · intro h3
          show ab_Z m_Mo_game _ _ _ 28 [_, _, _, _] [] _
          have h3' : ¬ s1 115 (15 + k) = -2 := h3
          refine ab_go ok_Mo_game 8 rfl ?_
          show ab_Z m_Mo_game _ _ _ 13 [_, _, _, _] [] _
          rw [bitsN_or (fun e => !decide (V 11 (33 + e) = -2)) (by omega) (by rw [decide_eq_false (fun z => h3' (hvs.symm.trans z))]; rfl)]
          exact ih
end

