/-! tokens: what a tape tells -/
def byN (b : Nat → Int32) (i : Nat) : Nat := (b i).toBitVec.toNat % 256
/-- the byte at i; 256 behind the end -/
def chN (b : Nat → Int32) (L i : Nat) : Nat := if i < L then byN b i else 256
def ltC (c : Nat) : Bool := decide (97 ≤ c) && decide (c ≤ 122)
def dgC (c : Nat) : Bool := decide (48 ≤ c) && decide (c ≤ 57)
def blC (c : Nat) : Bool := decide (c = 9) || (decide (c = 10) || (decide (c = 13) || decide (c = 32)))
def sgC (c : Nat) : Bool := decide (c = 59) || (decide (c = 61) || (decide (c = 43) || (decide (c = 45) || (decide (c = 42) || (decide (c = 47) || (decide (c = 60) || (decide (c = 40) || decide (c = 41))))))))
def rnE (p : Nat → Bool) : Nat → Nat → Nat
  | 0, i => i
  | n + 1, i => if p i = true then rnE p n (i + 1) else i
theorem rnE_s (p : Nat → Bool) : ∀ n i, i ≤ rnE p n i ∧ rnE p n i ≤ i + n ∧ (∀ j, i ≤ j → j < rnE p n i → p j = true) ∧ (rnE p n i < i + n → p (rnE p n i) = false)
  | 0, i => ⟨Nat.le_refl _, Nat.le_refl _, fun j a b => absurd (show j < i from b) (by omega), fun h => absurd (show i < i + 0 from h) (by omega)⟩
  | n + 1, i => by
    rw [rnE]
    by_cases hp : p i = true
    · rw [if_pos hp]
      obtain ⟨h1, h2, h3, h4⟩ := rnE_s p n (i + 1)
      refine ⟨by omega, by omega, fun j a b => ?_, fun h => h4 (by omega)⟩
      by_cases hj : j = i
      · rw [hj]; exact hp
      · exact h3 j (by omega) b
    · rw [if_neg hp]
      exact ⟨Nat.le_refl _, by omega, fun j a b => absurd b (by omega), fun _ => Bool.not_eq_true _ ▸ hp⟩
def bkE (b : Nat → Int32) (L i : Nat) : Nat := rnE (fun j => blC (chN b L j)) (L - i) i
def ltE (b : Nat → Int32) (L i : Nat) : Nat := rnE (fun j => ltC (chN b L j)) (L - i) i
def dgE (b : Nat → Int32) (L i : Nat) : Nat := rnE (fun j => dgC (chN b L j)) (L - i) i
theorem ch_hi {b : Nat → Int32} {L i : Nat} (h : L ≤ i) : chN b L i = 256 := if_neg (by omega)
theorem ch_lt {b : Nat → Int32} {L i : Nat} (h : i < L) : chN b L i < 256 := by
  unfold chN
  rw [if_pos h]
  exact Nat.mod_lt _ (by decide)
/-- a run of p from i on ends at e -/
def RunE (q : Nat → Bool) (b : Nat → Int32) (L i e : Nat) : Prop := i ≤ e ∧ e ≤ L ∧ (∀ j, i ≤ j → j < e → q (chN b L j) = true) ∧ q (chN b L e) = false
theorem run_E {q : Nat → Bool} (hq : q 256 = false) (b : Nat → Int32) {L i : Nat} (hi : i ≤ L) : RunE q b L i (rnE (fun j => q (chN b L j)) (L - i) i) := by
  obtain ⟨h1, h2, h3, h4⟩ := rnE_s (fun j => q (chN b L j)) (L - i) i
  refine ⟨h1, by omega, h3, ?_⟩
  by_cases h : rnE (fun j => q (chN b L j)) (L - i) i < i + (L - i)
  · exact h4 h
  · rw [ch_hi (by omega)]; exact hq
def cdL (B : Nat) (l : List Nat) : Nat := l.foldl (fun a x => a * B + x) 0
def ltL (b : Nat → Int32) (L i n : Nat) : List Nat := (List.range n).map fun k => chN b L (i + k) - 96
theorem cdL_s (B : Nat) (b : Nat → Int32) (L i n : Nat) : cdL B (ltL b L i (n + 1)) = cdL B (ltL b L i n) * B + (chN b L (i + n) - 96) := by
  unfold cdL ltL
  rw [List.range_succ, List.map_append, List.foldl_append]
  rfl
theorem cdL_app (B : Nat) (l : List Nat) (x : Nat) : cdL B (l ++ [x]) = cdL B l * B + x := by
  unfold cdL
  rw [List.foldl_append]
  rfl
/-- letters that are told alike by their number -/
theorem cdL_inj {B : Nat} (hB : 27 ≤ B) : ∀ (n : Nat) (l l' : List Nat), l.length = n → (∀ x ∈ l, 1 ≤ x ∧ x ≤ 26) → (∀ x ∈ l', 1 ≤ x ∧ x ≤ 26) → cdL B l = cdL B l' → l = l'
  | n, l, l', hn, h1, h2, he => by
    rcases List.eq_nil_or_concat l with rfl | ⟨r, x, rfl⟩
    · rcases List.eq_nil_or_concat l' with rfl | ⟨r', x', rfl⟩
      · rfl
      · rw [List.concat_eq_append, cdL_app] at he
        have := h2 x' (by simp)
        have h0 : cdL B [] = 0 := rfl
        omega
    · rw [List.concat_eq_append] at *
      rcases List.eq_nil_or_concat l' with rfl | ⟨r', x', rfl⟩
      · rw [cdL_app] at he
        have := h1 x (by simp)
        have h0 : cdL B [] = 0 := rfl
        omega
      · rw [List.concat_eq_append] at *
        rw [cdL_app, cdL_app] at he
        have a1 := h1 x (by simp)
        have a2 := h2 x' (by simp)
        have m1 : (cdL B r * B + x) % B = x := by rw [Nat.mul_comm, Nat.mul_add_mod, Nat.mod_eq_of_lt (by omega)]
        have m2 : (cdL B r' * B + x') % B = x' := by rw [Nat.mul_comm, Nat.mul_add_mod, Nat.mod_eq_of_lt (by omega)]
        have hx : x = x' := by rw [← m1, he, m2]
        have hr : cdL B r = cdL B r' := Nat.eq_of_mul_eq_mul_right (show 0 < B by omega) (by omega)
        match n, hn with
        | n + 1, hn =>
          rw [hx, cdL_inj hB n r r' (by simpa using hn) (fun y hy => h1 y (by simp [hy])) (fun y hy => h2 y (by simp [hy])) hr]
        | 0, hn => simp at hn
theorem cdL_lt {B : Nat} (hB : 27 ≤ B) : ∀ (n : Nat) (l : List Nat), l.length = n → (∀ x ∈ l, 1 ≤ x ∧ x ≤ 26) → cdL B l < B ^ n
  | 0, l, hn, _ => by
    rw [List.eq_nil_of_length_eq_zero hn, Nat.pow_zero]
    show 0 < 1
    omega
  | n + 1, l, hn, h => by
    rcases List.eq_nil_or_concat l with rfl | ⟨r, x, rfl⟩
    · simp at hn
    · rw [List.concat_eq_append] at *
      rw [cdL_app, Nat.pow_succ]
      have h1 := cdL_lt hB n r (by simpa using hn) (fun y hy => h y (by simp [hy]))
      have h2 := h x (by simp)
      have h3 := Nat.mul_le_mul_right B (show cdL B r + 1 ≤ B ^ n from h1)
      rw [Nat.add_mul, Nat.one_mul] at h3
      omega
def wdL : List (List Nat) := [[3, 12, 5, 18, 11], [4, 5, 5, 4], [20, 18, 5, 1, 20, 25], [20, 1, 11, 5, 19], [7, 18, 15, 23, 19], [2, 9, 14, 4, 19], [6, 1, 4, 5, 19], [19, 12, 9, 16, 19], [19, 5, 5, 4], [9, 6], [20, 8, 5, 14], [5, 12, 19, 5], [14, 5, 5, 4], [12, 5, 22, 5, 12], [1, 7, 5], [23, 15, 18, 20, 8], [6, 5, 1, 20, 21, 18, 5], [25, 5, 1, 18], [19, 5, 1, 12, 5, 4], [23, 8, 9, 3, 8], [16, 18, 9, 14, 20]]
def wkF (l : List Nat) : List (List Nat) → Nat → Nat
  | [], _ => 2
  | w :: r, k => if w = l then 256 + k else wkF l r (k + 1)
def tkE (b : Nat → Int32) (L j : Nat) : Nat := if ltC (chN b L j) = true then ltE b L j else if dgC (chN b L j) = true then dgE b L j else j + 1
def tkK (b : Nat → Int32) (L j : Nat) : Nat := if ltC (chN b L j) = true then (if 8 < ltE b L j - j then 1 else wkF (ltL b L j (ltE b L j - j)) wdL 0) else if dgC (chN b L j) = true then (if 4 < dgE b L j - j then 1 else 3) else if chN b L j = 256 then 0 else if sgC (chN b L j) = true then chN b L j else 1
def ivN (b : Nat → Int32) (L j : Nat) : Nat → Nat
  | 0 => 0
  | n + 1 => 10 * ivN b L j n + (chN b L (j + n) - 48)
def tkV' (b : Nat → Int32) (L j : Nat) : Nat := ivN b L j (dgE b L j - j)
def tkN (b : Nat → Int32) (L j : Nat) : List Nat := ltL b L j (ltE b L j - j)
def tkP (b : Nat → Int32) (L : Nat) : Nat → Nat
  | 0 => bkE b L 0
  | n + 1 => bkE b L (tkE b L (tkP b L n))
theorem lt256 : ltC 256 = false := by decide
theorem dg256 : dgC 256 = false := by decide
theorem bl256 : blC 256 = false := by decide
theorem bk_E (b : Nat → Int32) {L i : Nat} (hi : i ≤ L) : RunE blC b L i (bkE b L i) := run_E bl256 b hi
theorem lt_E (b : Nat → Int32) {L i : Nat} (hi : i ≤ L) : RunE ltC b L i (ltE b L i) := run_E lt256 b hi
theorem dg_E (b : Nat → Int32) {L i : Nat} (hi : i ≤ L) : RunE dgC b L i (dgE b L i) := run_E dg256 b hi
theorem RunE.pos {q : Nat → Bool} {b : Nat → Int32} {L i e : Nat} (h : RunE q b L i e) (hq : q (chN b L i) = true) : i < e := by
  rcases Nat.lt_or_ge i e with h1 | h1
  · exact h1
  · have h2 : e = i := by have := h.1; omega
    have := h.2.2.2
    rw [h2, hq] at this; cases this
theorem tkE_le (b : Nat → Int32) {L j : Nat} (hj : j < L) : j < tkE b L j ∧ tkE b L j ≤ L := by
  unfold tkE
  by_cases h1 : ltC (chN b L j) = true
  · rw [if_pos h1]
    have := lt_E b (show j ≤ L by omega)
    exact ⟨this.pos h1, this.2.1⟩
  · rw [if_neg h1]
    by_cases h2 : dgC (chN b L j) = true
    · rw [if_pos h2]
      have := dg_E b (show j ≤ L by omega)
      exact ⟨this.pos h2, this.2.1⟩
    · rw [if_neg h2]; omega
theorem tkK_end (b : Nat → Int32) {L j : Nat} (hj : L ≤ j) : tkK b L j = 0 := by
  unfold tkK
  rw [ch_hi hj]
  rfl
theorem wk_r (l : List Nat) : ∀ (ws : List (List Nat)) (k : Nat), wkF l ws k = 2 ∨ ∃ i, i < ws.length ∧ wkF l ws k = 256 + (k + i) ∧ ws[i]? = some l ∧ ∀ j, j < i → ws[j]? ≠ some l
  | [], k => Or.inl rfl
  | w :: r, k => by
    rw [wkF]
    by_cases h : w = l
    · rw [if_pos h]
      exact Or.inr ⟨0, by simp, rfl, by rw [h]; rfl, fun j hj => absurd hj (by omega)⟩
    · rw [if_neg h]
      rcases wk_r l r (k + 1) with h1 | ⟨i, h1, h2, h3, h4⟩
      · exact Or.inl h1
      · refine Or.inr ⟨i + 1, by simpa using h1, by rw [h2]; omega, by simpa using h3, fun j hj => ?_⟩
        match j, hj with
        | 0, _ => simpa using h
        | j + 1, hj => simpa using h4 j (by omega)
theorem wk_no (l : List Nat) : ∀ (ws : List (List Nat)) (k : Nat), (∀ i, i < ws.length → ws[i]? ≠ some l) → wkF l ws k = 2
  | [], k, _ => rfl
  | w :: r, k, h => by
    rw [wkF, if_neg (fun z => h 0 (by simp) (by rw [z]; rfl))]
    exact wk_no l r (k + 1) (fun i hi => by simpa using h (i + 1) (by simpa using hi))
theorem tkP_le (b : Nat → Int32) {L : Nat} : ∀ n, (∀ m, m < n → tkK b L (tkP b L m) ≠ 0) → tkP b L n ≤ L
  | 0, _ => (bk_E b (Nat.zero_le L)).2.1
  | n + 1, h => by
    have h1 := tkP_le b n (fun m hm => h m (by omega))
    have h2 : tkP b L n < L := by
      rcases Nat.lt_or_ge (tkP b L n) L with h3 | h3
      · exact h3
      · exact absurd (tkK_end b h3) (h n (by omega))
    exact (bk_E b (tkE_le b h2).2).2.1
theorem tkP_lt (b : Nat → Int32) {L n : Nat} (h : ∀ m, m ≤ n → tkK b L (tkP b L m) ≠ 0) : tkP b L n < tkP b L (n + 1) := by
  have h1 := tkP_le b n (fun m hm => h m (by omega))
  have h2 : tkP b L n < L := by
    rcases Nat.lt_or_ge (tkP b L n) L with h3 | h3
    · exact h3
    · exact absurd (tkK_end b h3) (h n (by omega))
  have h3 := tkE_le b h2
  have h4 := (bk_E b h3.2).1
  exact Nat.lt_of_lt_of_le h3.1 h4
theorem ltL_m {b : Nat → Int32} {L j e : Nat} (h : RunE ltC b L j e) : ∀ x ∈ ltL b L j (e - j), 1 ≤ x ∧ x ≤ 26 := by
  intro x hx
  unfold ltL at hx
  obtain ⟨k, hk, rfl⟩ := List.mem_map.mp hx
  have hk' := List.mem_range.mp hk
  have := h.2.2.1 (j + k) (by omega) (by omega)
  unfold ltC at this
  simp only [Bool.and_eq_true, decide_eq_true_eq] at this
  omega
theorem ltL_len (b : Nat → Int32) (L j n : Nat) : (ltL b L j n).length = n := by unfold ltL; simp

