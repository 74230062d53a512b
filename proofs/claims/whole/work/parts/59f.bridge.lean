/-! plans, gone through deed by deed -/
def stD (V : Nat → Nat → Int32) (PT : List (List Ins)) (nd : Nat) (D : Nat → Nat) : Nat → Nat → Nat → Int32
  | 0 => V
  | e + 1 => if D e = 0 then stD V PT nd D e else ab_ro (stD V PT nd D e) 11 (sealR (stD V PT nd D e) PT nd (D e - 1) e)
def okD (V : Nat → Nat → Int32) (PT : List (List Ins)) (nd : Nat) (D : Nat → Nat) : Nat → Bool
  | 0 => true
  | e + 1 => okD V PT nd D e && (decide (D e = 0) || canB (stD V PT nd D e) PT nd (D e - 1) e)
theorem cnt_or {p q : Nat → Bool} : ∀ {n : Nat}, (∀ k, k < n → (p k && q k) = false) → cntN (fun k => p k || q k) n = cntN p n + cntN q n
  | 0, _ => rfl
  | n + 1, h => by
    rw [cntN, cntN, cntN, cnt_or (fun k hk => h k (by omega))]
    have := h n (by omega)
    cases hp : p n <;> cases hq : q n <;> rw [hp, hq] at this <;> simp at this ⊢ <;> omega
theorem cnt_hi {p : Nat → Bool} {n : Nat} (h : ∀ k, n ≤ k → p k = false) : ∀ {m : Nat}, n ≤ m → cntN p m = cntN p n
  | 0, hm => by rw [Nat.le_zero.mp hm]
  | m + 1, hm => by
    rcases Nat.lt_or_ge m n with h1 | h1
    · rw [show n = m + 1 by omega]
    · rw [cntN, h m h1, cnt_hi h h1]; rfl
theorem bc_bits (p : Nat → Bool) {n : Nat} (hn : n ≤ 6) : bcF (nI (bitsN p n)) = nI (cntN p n) := by
  rw [bcF_64 _ (Nat.lt_of_lt_of_le (bitsN_lt p n) (Nat.pow_le_pow_right (by decide) hn : 2 ^ n ≤ 2 ^ 6)), bitsN_pc p n hn]
theorem opN_tb (V : Nat → Nat → Int32) (nd e : Nat) : (opN V nd).testBit e = (decide (e < nd) && openB V e) := tb_bitsN ..
theorem dgO_op {V : Nat → Nat → Int32} {nd e : Nat} {D : Nat → Nat} (hO : dgO (opN V nd) D) (h : D e ≠ 0) : e < nd ∧ V 11 (33 + e) = -2 := by
  have := (hO e h).2
  rw [opN_tb, Bool.and_eq_true] at this
  exact ⟨of_decide_eq_true this.1, of_decide_eq_true this.2⟩
section
variable {V : Nat → Nat → Int32} {PT PB PF : List (List Ins)} {nc nd : Nat} {D : Nat → Nat}
/-- what a plan has made of the row ahead of a deed -/
def StP (V : Nat → Nat → Int32) (PT : List (List Ins)) (nc nd : Nat) (D : Nat → Nat) (e : Nat) (W : Nat → Nat → Int32) : Prop :=
  (∀ x, x ≠ 11 → W x = V x) ∧ W 11 39 = V 11 39 ∧ (∀ i, i < nd → W 11 (33 + i) = if i < e ∧ D i ≠ 0 then nI (D i - 1) else V 11 (33 + i)) ∧ (∀ c f, c < nc → f < 3 → W 11 (3 * c + f) = plL V PT nd c (dgA D c) e f) ∧ ∀ i f, i < e → D i ≠ 0 → f < 3 → W 11 (15 + 3 * i + f) = plT V PT nd (D i - 1) (dgA D (D i - 1)) i f
theorem StP.ns {W : Nat → Nat → Int32} {e c : Nat} (h6 : nd ≤ 6) (hO : dgO (opN V nd) D) (h5 : ∀ e, D e ≤ nc) (hnc : nc ≤ 5) (he : e ≤ nd) (hc : c < nc) (h : StP V PT nc nd D e W) : nsV W nd c = plN V nd c (dgA D c % 2 ^ e) := by
  unfold nsV plN nsV
  have hmod : dgA D c % 2 ^ e < 64 := Nat.lt_of_le_of_lt (Nat.mod_le _ _) (dgA_lt D c)
  rw [bc_bits _ h6, bc_bits _ h6, bcF_64 _ hmod, nI_add]
  congr 1
  have e1 : pcN (dgA D c % 2 ^ e) = cntN (fun i => decide (i < e) && decide (D i = c + 1)) nd := by
    unfold pcN
    rw [cnt_hi (p := fun i => (dgA D c % 2 ^ e).testBit i) (n := nd) (fun k hk => by rw [Nat.testBit_mod_two_pow, decide_eq_false (show ¬ k < e by omega), Bool.false_and]) h6]
    exact cntN_cg (fun k hk => by rw [Nat.testBit_mod_two_pow, dgA_tb, decide_eq_true (show k < 6 by omega), Bool.true_and])
  rw [e1, ← cnt_or (fun k hk => ?_)]
  · refine cntN_cg (fun k hk => ?_)
    rw [h.2.2.1 k hk]
    by_cases hd : k < e ∧ D k ≠ 0
    · have := h5 k
      have hop := (dgO_op hO hd.2).2
      rw [if_pos hd, hop, decide_eq_true hd.1, Bool.true_and, decide_eq_false (show ¬ (-2 : Int32) = nI c from fun z => nI_ne2 (show c < 1000 by omega) z.symm), Bool.false_or]
      by_cases hq : D k = c + 1
      · rw [decide_eq_true hq, hq]; exact decide_eq_true rfl
      · rw [decide_eq_false hq, decide_eq_false (fun z => hq (by have := (nI_eq (by omega) (by omega)).mp z; omega))]
    · rw [if_neg hd]
      by_cases hq : k < e
      · have h0 : D k = 0 := Decidable.byContradiction fun z => hd ⟨hq, z⟩
        rw [h0, decide_eq_false (show ¬ 0 = c + 1 by omega), Bool.and_false, Bool.or_false]
      · rw [decide_eq_false hq, Bool.false_and, Bool.or_false]
  · by_cases hd : D k = c + 1
    · have hop := (dgO_op hO (show D k ≠ 0 by omega)).2
      rw [hop, decide_eq_false (show ¬ (-2 : Int32) = nI c from fun z => nI_ne2 (show c < 1000 by omega) z.symm)]
      rfl
    · rw [decide_eq_false hd, Bool.and_false, Bool.and_false]
theorem StP.tk {W : Nat → Nat → Int32} {e c f : Nat} (h6 : nd ≤ 6) (hO : dgO (opN V nd) D) (h5 : ∀ e, D e ≤ nc) (hnc : nc ≤ 5) (he : e ≤ nd) (hc : c < nc) (hf : f < 3) (h : StP V PT nc nd D e W) : TV W PT nd c e f = plT V PT nd c (dgA D c) e f := by
  unfold TV plT tkV
  rw [h.ns h6 hO h5 hnc he hc, h.2.2.2.1 c f hc hf, h.1 20 (by decide), h.1 16 (by decide), h.1 19 (by decide), h.2.1]
theorem StP.can {W : Nat → Nat → Int32} {e c : Nat} (h6 : nd ≤ 6) (hO : dgO (opN V nd) D) (h5 : ∀ e, D e ≤ nc) (hnc : nc ≤ 5) (he : e < nd) (hop : V 11 (33 + e) = -2) (hc : c < nc) (h : StP V PT nc nd D e W) : canB W PT nd c e = plO V PT nd c (dgA D c) e := by
  have hT : ∀ f, f < 3 → TV W PT nd c e f = plT V PT nd c (dgA D c) e f := fun f hf => h.tk h6 hO h5 hnc (by omega) hc hf
  have hL : ∀ f, f < 3 → W 11 (3 * c + f) = plL V PT nd c (dgA D c) e f := fun f hf => h.2.2.2.1 c f hc hf
  have e1 : ∀ k, k ≤ 3 → enB W PT nd c e k = enF (plL V PT nd c (dgA D c) e) (plT V PT nd c (dgA D c) e) k := by
    intro k
    induction k with
    | zero =>
      intro _
      rw [enB, enF, h.2.2.1 e he, if_neg (fun z => Nat.lt_irrefl _ z.1), hop]
      decide
    | succ k ih =>
      intro hk
      rw [enB, enF, ih (by omega), hT k (by omega), hL k (by omega)]
  have e2 : ∀ k, k ≤ 3 → leftV W PT nd c e k = rsF (plL V PT nd c (dgA D c) e) (plT V PT nd c (dgA D c) e) k := by
    intro k
    induction k with
    | zero => intro _; rfl
    | succ k ih =>
      intro hk
      rw [leftV, rsF, ih (by omega), hT k (by omega), hL k (by omega)]
  unfold canB plO
  rw [e1 3 (Nat.le_refl _), e2 3 (Nat.le_refl _)]
theorem st_P (h6 : nd ≤ 6) (hO : dgO (opN V nd) D) (h5 : ∀ e, D e ≤ nc) (hnc : nc ≤ 5) : ∀ e, e ≤ nd → StP V PT nc nd D e (stD V PT nd D e)
  | 0, _ => ⟨fun _ _ => rfl, rfl, fun i _ => by rw [if_neg (fun z => absurd z.1 (by omega))]; rfl, fun c f _ _ => rfl, fun i f h => absurd h (by omega)⟩
  | e + 1, he => by
    have ih := st_P h6 hO h5 hnc e (by omega)
    have htb : ∀ c, (dgA D c).testBit e = decide (D e = c + 1) := fun c => by rw [dgA_tb, decide_eq_true (show e < 6 by omega), Bool.true_and]
    rw [stD]
    by_cases h0 : D e = 0
    · rw [if_pos h0]
      refine ⟨ih.1, ih.2.1, fun i hi => ?_, fun c f hc hf => ?_, fun i f hi hd hf => ?_⟩
      · rw [ih.2.2.1 i hi]
        by_cases hz : i < e ∧ D i ≠ 0
        · rw [if_pos hz, if_pos ⟨by omega, hz.2⟩]
        · rw [if_neg hz, if_neg (fun z => hz ⟨by
            rcases Nat.lt_or_ge i e with h | h
            · exact h
            · exact absurd (by rw [show i = e by omega]; exact h0) z.2, z.2⟩)]
      · rw [plL, htb, h0, decide_eq_false (show ¬ 0 = c + 1 by omega), if_neg (by decide)]
        exact ih.2.2.2.1 c f hc hf
      · refine ih.2.2.2.2 i f ?_ hd hf
        rcases Nat.lt_or_ge i e with h | h
        · exact h
        · exact absurd (by rw [show i = e by omega]; exact h0) hd
    · rw [if_neg h0]
      have hDe := h5 e
      obtain ⟨c0, hc0⟩ : ∃ c0, D e = c0 + 1 := ⟨D e - 1, by omega⟩
      have hc0n : c0 < nc := by omega
      rw [hc0, Nat.add_sub_cancel]
      have hT : ∀ f, f < 3 → TV (stD V PT nd D e) PT nd c0 e f = plT V PT nd c0 (dgA D c0) e f := fun f hf => ih.tk h6 hO h5 hnc (by omega) hc0n hf
      generalize stD V PT nd D e = W at ih hT ⊢
      refine ⟨fun x hx => by rw [ab_ro_o hx]; exact ih.1 x hx, ?_, fun i hi => ?_, fun c f hc hf => ?_, fun i f hi hd hf => ?_⟩
      · rw [ab_ro_c]
        unfold sealR upd
        rw [if_neg (by omega), fillR_o (by omega), fillR_o (by omega)]
        exact ih.2.1
      · rw [ab_ro_c]
        unfold sealR upd
        by_cases hie : i = e
        · subst hie
          rw [if_pos rfl, if_pos ⟨by omega, h0⟩, hc0, Nat.add_sub_cancel]
        · rw [if_neg (by omega), fillR_o (by omega), fillR_o (by omega), ih.2.2.1 i hi]
          by_cases hz : i < e ∧ D i ≠ 0
          · rw [if_pos hz, if_pos ⟨by omega, hz.2⟩]
          · rw [if_neg hz, if_neg (fun z => hz ⟨by omega, z.2⟩)]
      · rw [ab_ro_c, plL, htb]
        unfold sealR upd
        rw [if_neg (by omega), fillR_o (by omega)]
        by_cases hcc : c = c0
        · subst hcc
          rw [fillR_i hf, hc0, decide_eq_true rfl, if_pos rfl, ih.2.2.2.1 c f hc hf, hT f hf]
          rfl
        · rw [fillR_o (by omega), hc0, decide_eq_false (show ¬ c0 + 1 = c + 1 by omega), if_neg (by decide)]
          exact ih.2.2.2.1 c f hc hf
      · rw [ab_ro_c]
        unfold sealR upd
        rw [if_neg (by omega)]
        by_cases hie : i = e
        · subst hie
          rw [fillR_i hf, hc0, Nat.add_sub_cancel, hT f hf]
        · rw [fillR_o (by omega), fillR_o (by have := h5 i; omega)]
          exact ih.2.2.2.2 i f (by omega) hd hf
theorem ok_K (h6 : nd ≤ 6) (hO : dgO (opN V nd) D) (h5 : ∀ e, D e ≤ nc) (hnc : nc ≤ 5) : ∀ e, e ≤ nd → (okD V PT nd D e = true ↔ ∀ c, c < nc → plK V PT nd c (opN V nd) (dgA D c) e = true)
  | 0, _ => ⟨fun _ _ _ => rfl, fun _ => rfl⟩
  | e + 1, he => by
    have ih := ok_K h6 hO h5 hnc e (by omega)
    have hP := st_P (PT := PT) h6 hO h5 hnc e (by omega)
    have htb : ∀ c, (dgA D c).testBit e = decide (D e = c + 1) := fun c => by rw [dgA_tb, decide_eq_true (show e < 6 by omega), Bool.true_and]
    rw [okD, Bool.and_eq_true, ih]
    by_cases h0 : D e = 0
    · rw [decide_eq_true h0, Bool.true_or]
      constructor
      · intro h c hc
        rw [plK, h.1 c hc, htb, h0, decide_eq_false (show ¬ 0 = c + 1 by omega)]
        rfl
      · intro h
        refine ⟨fun c hc => ?_, rfl⟩
        have := h c hc
        rw [plK, Bool.and_eq_true] at this
        exact this.1
    · have hDe := h5 e
      obtain ⟨hen, hop⟩ := dgO_op hO h0
      rw [decide_eq_false h0, Bool.false_or, hP.can h6 hO h5 hnc (by omega) hop (show D e - 1 < nc by omega)]
      have hopb : (opN V nd).testBit e = true := (hO e h0).2
      constructor
      · intro h c hc
        rw [plK, h.1 c hc, htb]
        by_cases hcc : D e = c + 1
        · rw [show D e - 1 = c by omega] at h
          rw [hopb, h.2]
          simp
        · rw [decide_eq_false hcc]; rfl
      · intro h
        refine ⟨fun c hc => ?_, ?_⟩
        · have := h c hc
          rw [plK, Bool.and_eq_true] at this
          exact this.1
        · have := h (D e - 1) (by omega)
          rw [plK, Bool.and_eq_true, htb, decide_eq_true (show D e = D e - 1 + 1 by omega), hopb] at this
          simpa using this.2
theorem dgA_nd (hO : dgO (opN V nd) D) (c : Nat) : dgA D c < 2 ^ nd := by
  apply Nat.lt_pow_two_of_testBit
  intro i hi
  rw [dgA_tb]
  by_cases h : D i = c + 1
  · have := (dgO_op hO (show D i ≠ 0 by omega)).1
    omega
  · rw [decide_eq_false h, Bool.and_false]
/-- a plan can be gone through if each clerk can seal what it gives them -/
theorem ok_V (h6 : nd ≤ 6) (hO : dgO (opN V nd) D) (h5 : ∀ e, D e ≤ nc) (hnc : nc ≤ 5) : okD V PT nd D nd = true ↔ dgV (fun c => plC V PT nd c (opN V nd)) D nc := by
  rw [ok_K h6 hO h5 hnc nd (Nat.le_refl _)]
  have : ∀ c, plC V PT nd c (opN V nd) (dgA D c) = plK V PT nd c (opN V nd) (dgA D c) nd := fun c => by
    unfold plC
    have := plK_hi V PT nd c (opN V nd) (dgA_nd hO c) (6 - nd)
    rwa [show nd + (6 - nd) = 6 by omega] at this
  constructor
  · intro h c hc
    show plC V PT nd c (opN V nd) (dgA D c) = true
    rw [this]; exact h c hc
  · intro h c hc
    rw [← this]; exact h c hc
/-- what a deed binds by a plan -/
def plB (V : Nat → Nat → Int32) (PT PB : List (List Ins)) (nd : Nat) (D : Nat → Nat) (e : Nat) : Int32 := if D e = 0 then 0 else bdF PB (V 16 (D e - 1) + V 11 39) (V 19 e) (V 11 39) (plN V nd (D e - 1) (dgA D (D e - 1))) (nI (D e - 1)) (plP V PT nd (D e - 1) (dgA D (D e - 1)) e)
theorem plB_r (V : Nat → Nat → Int32) (PT PB : List (List Ins)) (nd : Nat) (D : Nat → Nat) (e : Nat) : 0 ≤ (plB V PT PB nd D e).toInt ∧ (plB V PT PB nd D e).toInt ≤ 99 := by
  unfold plB
  split
  · exact ⟨by decide, by decide⟩
  · exact held_r _ (m := 99) (by decide)
theorem st_B (h6 : nd ≤ 6) (hO : dgO (opN V nd) D) (h5 : ∀ e, D e ≤ nc) (hnc : nc ≤ 5) {e : Nat} (he : e < nd) (hop : openB V e = true) : bdV (stD V PT nd D nd) PB PF nd e 0 = plB V PT PB nd D e := by
  have hP := st_P (PT := PT) h6 hO h5 hnc nd (Nat.le_refl _)
  have hv : V 11 (33 + e) = -2 := of_decide_eq_true hop
  unfold bdV plB
  rw [hP.2.2.1 e he]
  by_cases h0 : D e = 0
  · rw [if_neg (show ¬ (e < nd ∧ D e ≠ 0) from fun z => z.2 h0), hv, if_pos h0]
    rfl
  · have hDe := h5 e
    rw [if_pos (show e < nd ∧ D e ≠ 0 from ⟨he, h0⟩), if_neg h0, if_neg (nI_l0 (show D e - 1 < 2147483648 by omega)), nI_c (show D e - 1 < 2147483648 by omega), nI_0, Int32.add_zero, hP.1 16 (by decide), hP.1 19 (by decide), hP.2.1, hP.ns h6 hO h5 hnc (Nat.le_refl _) (show D e - 1 < nc by omega), Nat.mod_eq_of_lt (dgA_nd hO _)]
    congr 1
    unfold plP
    simp only [prsA, sumV, prtA]
    rw [hP.2.2.2.2 e 0 he h0 (by decide), hP.2.2.2.2 e 1 he h0 (by decide), hP.2.2.2.2 e 2 he h0 (by decide)]
end

