/-! what a good reading holds -/
def okX (x : Tx) : Prop := (∀ c, c < xNc x → xAg x c ≤ 99 ∧ ∀ f, f < 3 → xFc x (3 * c + f) ≤ 9) ∧ (∀ e, e < xNd x → xWo x e ≤ 99 ∧ ∀ f, f < 3 → xNe x (3 * e + f) ≤ 9) ∧ (∀ k, k < 2 * xNt x → ∃ e, e < xNd x ∧ xTr x k = nI e) ∧ xSl x ≤ 100 ∧ xSd x ≤ 9999
theorem ltU_0 {l : Nat × Nat} {c t : Nat} (hc : c ≠ 0) : (ltU l c t).1 ≠ 0 := by
  unfold ltU
  split
  · exact hc
  · assumption
theorem int_0 {K v : Nat → Nat} {m t : Nat} {l : Nat × Nat} {a : Nat × Nat × (Nat × Nat)} (h : intT K v m t l = .inl a) (h0 : a.2.2.1 = 0) : l.1 = 0 ∧ a.2.1 ≤ m := by
  unfold intT at h
  obtain ⟨t1, e1, e2⟩ := bnd_in h
  cases e2
  dsimp only at h0 ⊢
  split at h0
  · exact absurd h0 (ltU_0 (by decide))
  · exact ⟨h0, by omega⟩
theorem lv3_0 {K v : Nat → Nat} {t : Nat} {l : Nat × Nat} {b : Nat × (Nat → Nat) × (Nat × Nat)} (h : lv3T K v t l = .inl b) (h0 : b.2.2.1 = 0) : l.1 = 0 ∧ ∀ f, f < 3 → b.2.1 f ≤ 9 := by
  unfold lv3T at h
  obtain ⟨a1, e1, e2⟩ := bnd_in h
  obtain ⟨a2, e3, e4⟩ := bnd_in e2
  obtain ⟨a3, e5, e6⟩ := bnd_in e4
  cases e6
  dsimp only at h0 ⊢
  obtain ⟨q1, q2⟩ := int_0 e5 h0
  obtain ⟨q3, q4⟩ := int_0 e3 q1
  obtain ⟨q5, q6⟩ := int_0 e1 q3
  refine ⟨q5, fun f hf => ?_⟩
  rcases (by omega : f = 0 ∨ f = 1 ∨ f = 2) with rfl | rfl | rfl
  · exact q6
  · exact q4
  · exact q2
theorem dn_0 {K : Nat → Nat} {nm : Nat → List Nat} {x : Tx} {t : Nat} {l : Nat × Nat} {a : Nat × Int32 × (Nat × Nat)} (h : dnT K nm x t l = .inl a) (h0 : a.2.2.1 = 0) : l.1 = 0 ∧ ∃ e, e < xNd x ∧ a.2.1 = nI e := by
  unfold dnT at h
  obtain ⟨t1, e1, e2⟩ := bnd_in h
  cases e2
  dsimp only at h0 ⊢
  split at h0
  · exact absurd h0 (ltU_0 (by decide))
  · rename_i hne
    refine ⟨h0, ?_⟩
    unfold deedX at hne ⊢
    rcases fstM_or (fun e => decide (xDn x e = nm t)) (xNd x) 0 with ⟨h1, -⟩ | ⟨j, -, h2, -, h3⟩
    · exact absurd h1 hne
    · exact ⟨j, by omega, h3⟩
theorem blk_0 {n : Nat} {ag fc : Nat → Nat} {a : Nat} {g : Nat → Nat} (h : ∀ c, c < n → ag c ≤ 99 ∧ ∀ f, f < 3 → fc (3 * c + f) ≤ 9) (ha : a ≤ 99) (hg : ∀ f, f < 3 → g f ≤ 9) : ∀ c, c < n + 1 → updN ag n a c ≤ 99 ∧ ∀ f, f < 3 → fil3 fc n g (3 * c + f) ≤ 9 := by
  intro c hc
  unfold updN fil3
  by_cases hcn : c = n
  · subst hcn
    rw [if_pos rfl]
    refine ⟨ha, fun f hf => ?_⟩
    rw [if_pos (by omega), Nat.add_sub_cancel_left]
    exact hg f hf
  · rw [if_neg hcn]
    refine ⟨(h c (by omega)).1, fun f hf => ?_⟩
    rw [if_neg (by omega)]
    exact (h c (by omega)).2 f hf
theorem tel_0 {K v : Nat → Nat} {nm : Nat → List Nat} {x : Tx} {t : Nat} {q : Nat × Tx} (h : telT K v nm x t = .inl q) (hx : (xLt x).1 = 0 → okX x) : (xLt q.2).1 = 0 → okX q.2 := by
  unfold telT at h
  obtain ⟨p, hp, hp2⟩ := bnd_in h
  obtain ⟨t9, -, hp3⟩ := bnd_in hp2
  cases hp3
  intro h0
  have h0 : (xLt p.2).1 = 0 := h0
  show okX p.2
  have l3 : ∀ (b : Bool) (t1 : Nat), (if b = true then ltU (xLt x) 3 t1 else xLt x).1 = 0 → (xLt x).1 = 0 := fun b t1 z => by
    split at z
    · exact absurd z (ltU_0 (by decide))
    · exact z
  unfold telB at hp
  split at hp
  · unfold clkT at hp
    split at hp
    · cases hp
    · obtain ⟨t1, -, e2⟩ := bnd_in hp
      obtain ⟨t2, -, e4⟩ := bnd_in e2
      obtain ⟨a, e5, e6⟩ := bnd_in e4
      obtain ⟨b, e7, e8⟩ := bnd_in e6
      cases e8
      have h0 : b.2.2.1 = 0 := h0
      obtain ⟨q1, q2⟩ := lv3_0 e7 h0
      obtain ⟨q3, q4⟩ := int_0 e5 q1
      obtain ⟨o1, o2⟩ := hx (l3 _ _ q3)
      exact ⟨blk_0 o1 q4 q2, o2⟩
  · split at hp
    · unfold dedT at hp
      split at hp
      · cases hp
      · obtain ⟨t1, -, e2⟩ := bnd_in hp
        obtain ⟨t2, -, e4⟩ := bnd_in e2
        obtain ⟨a, e5, e6⟩ := bnd_in e4
        obtain ⟨b, e7, e8⟩ := bnd_in e6
        cases e8
        have h0 : b.2.2.1 = 0 := h0
        obtain ⟨q1, q2⟩ := lv3_0 e7 h0
        obtain ⟨q3, q4⟩ := int_0 e5 q1
        obtain ⟨o1, o2, o3, o4⟩ := hx (l3 _ _ q3)
        refine ⟨o1, blk_0 o2 q4 q2, fun k hk => ?_, o4⟩
        obtain ⟨e, z1, z2⟩ := o3 k hk
        exact ⟨e, Nat.lt_succ_of_lt z1, z2⟩
    · split at hp
      · unfold treT at hp
        split at hp
        · cases hp
        · obtain ⟨t1, -, e2⟩ := bnd_in hp
          obtain ⟨a, e3, e4⟩ := bnd_in e2
          obtain ⟨b, e5, e6⟩ := bnd_in e4
          cases e6
          have h0 : (if a.2.1 = b.2.1 ∧ a.2.1 ≠ -1 then ltU b.2.2 3 a.1 else b.2.2).1 = 0 := h0
          have hb : b.2.2.1 = 0 := by
            split at h0
            · exact absurd h0 (ltU_0 (by decide))
            · exact h0
          obtain ⟨q1, e, q2, q3⟩ := dn_0 e5 hb
          obtain ⟨q4, e', q5, q6⟩ := dn_0 e3 q1
          obtain ⟨o1, o2, o3, o4⟩ := hx q4
          refine ⟨o1, o2, fun k hk => ?_, o4⟩
          have hk' : k < 2 * (xNt x + 1) := hk
          show ∃ e, e < xNd x ∧ updN (updN (xTr x) (2 * xNt x) a.2.1) (2 * xNt x + 1) b.2.1 k = nI e
          unfold updN
          by_cases hk1 : k = 2 * xNt x + 1
          · rw [if_pos hk1]; exact ⟨e, q2, q3⟩
          · rw [if_neg hk1]
            by_cases hk2 : k = 2 * xNt x
            · rw [if_pos hk2]; exact ⟨e', q5, q6⟩
            · rw [if_neg hk2]; exact o3 k (by omega)
      · have law : ∀ k, lwT K v x k t = .inl p → okX p.2 := fun k hl => by
          unfold lwT at hl
          obtain ⟨w, -, e2⟩ := bnd_in hl
          cases e2
          exact hx h0
        split at hp
        · exact law 0 hp
        · split at hp
          · exact law 1 hp
          · split at hp
            · exact law 2 hp
            · split at hp
              · exact law 3 hp
              · split at hp
                · unfold slT' at hp
                  obtain ⟨t1, -, e2⟩ := bnd_in hp
                  obtain ⟨a, e3, e4⟩ := bnd_in e2
                  cases e4
                  obtain ⟨q1, q2⟩ := int_0 e3 h0
                  obtain ⟨o1, o2, o3, o4, o5⟩ := hx q1
                  exact ⟨o1, o2, o3, q2, o5⟩
                · split at hp
                  · unfold sdT at hp
                    obtain ⟨t1, -, e2⟩ := bnd_in hp
                    obtain ⟨a, e3, e4⟩ := bnd_in e2
                    cases e4
                    obtain ⟨q1, q2⟩ := int_0 e3 h0
                    obtain ⟨o1, o2, o3, o4, o5⟩ := hx q1
                    exact ⟨o1, o2, o3, o4, q2⟩
                  · cases hp
theorem top_0 {K v : Nat → Nat} {nm : Nat → List Nat} : ∀ (m n : Nat) (x : Tx) (q : Nat × Tx), topT K v nm m n x = .inl q → ((xLt x).1 = 0 → okX x) → (xLt q.2).1 = 0 → okX q.2
  | 0, n, x, q, h, hx => by
    cases h
    exact hx
  | m + 1, n, x, q, h, hx => by
    rw [topT] at h
    split at h
    · cases h
      exact hx
    · obtain ⟨p, h1, h2⟩ := bnd_in h
      exact top_0 m p.1 p.2 q h2 (tel_0 h1 hx)
theorem good_X {b : Nat → Int32} {L : Nat} {q : Nat × Tx} (h : fOf b L = .inl q) (h0 : rdN (fOf b L) = 0) : okX q.2 := by
  rw [h] at h0
  refine top_0 401 0 tx0 q h (fun _ => ?_) h0
  exact ⟨fun c hc => absurd hc (Nat.not_lt_zero c), fun c hc => absurd hc (Nat.not_lt_zero c), fun k hk => absurd hk (Nat.not_lt_zero k), Nat.zero_le _, Nat.zero_le _⟩

