/-! behind a good reading: both rows begin alike -/
theorem link_V {u : Nat → Nat → Int32} {x : Tx} {g : Nat → Int32} (h5 : xNc x ≤ 5) (h6 : xNd x ≤ 6) (hr : ∀ j, j < 40 → u 11 j = begR g j) (hg : ∀ c, c < xNc x → ∀ f, f < 3 → g (3 * c + f) = nI (xFc x (3 * c + f))) (h114 : ∀ j, j < 40 → u 114 j = rgF x (3 * xNc x) j) : vR u (xNc x) (xNd x) (u 114) = u := by
  unfold vR
  rw [show rwF (u 11) (xNc x) (xNd x) (u 114) = u 11 from ?_, ro_id]
  funext j
  unfold rwF
  split
  · rename_i h
    rw [h114 j (by omega), hr j (by omega)]
    unfold rgF begR
    rw [if_pos h, if_pos (by omega)]
    have := hg (j / 3) (by omega) (j % 3) (by omega)
    rw [show 3 * (j / 3) + j % 3 = j by omega] at this
    exact this.symm
  · split
    · rename_i h1 h
      rw [h114 (j + 6) (by omega), hr j (by omega)]
      unfold rgF begR r0F
      rw [if_neg (by omega), if_neg (by omega), if_neg (by omega), if_neg (by omega)]
    · split
      · rename_i h1 h2 h
        rw [h114 (j - 18) (by omega), hr j (by omega)]
        unfold rgF begR r0F
        rw [if_neg (by omega), if_pos (by omega), if_neg (by omega), if_pos (by omega)]
      · split
        · rename_i h1 h2 h3 h
          subst h
          rw [h114 39 (by omega), hr 39 (by omega)]
          unfold rgF begR r0F
          rw [if_neg (by omega), if_neg (by omega), if_neg (by omega), if_neg (by omega)]
        · rfl
theorem link_Q {u : Nat → Nat → Int32} {x : Tx} {g : Nat → Int32} (h5 : xNc x ≤ 5) (h6 : xNd x ≤ 6) (hx : okX x) (hr : ∀ j, j < 40 → u 11 j = begR g j) (hg : ∀ c, c < xNc x → ∀ f, f < 3 → g (3 * c + f) = nI (xFc x (3 * c + f))) (h17 : ∀ c, c < xNc x → ∀ f, f < 3 → u 17 (3 * c + f) = nI (xFc x (3 * c + f))) (h20 : ∀ e, e < xNd x → ∀ f, f < 3 → u 20 (3 * e + f) = nI (xNe x (3 * e + f))) (h21 : ∀ k, k < 2 * xNt x → u 21 k = xTr x k) : QI u (xNc x) (xNd x) (xNt x) := by
  obtain ⟨o1, o2, o3, -⟩ := hx
  refine ⟨⟨fun e he => Or.inl ?_, fun k hk i hi => ?_⟩, fun c f hc hf => ?_, fun e f he hf => ?_, fun e f he hf => ?_⟩
  · rw [hr _ (by omega)]
    unfold begR
    rw [if_neg (by omega), if_pos (by omega)]
  · rw [h21 _ (by omega)]
    exact o3 _ (by omega)
  · have h9 := (o1 c hc).2 f hf
    rw [hr _ (by omega), h17 c hc f hf]
    unfold begR
    rw [if_pos (by omega), hg c hc f hf, nI_t (by omega)]
    omega
  · rw [hr _ (by omega)]
    unfold begR
    rw [if_neg (by omega), if_neg (by omega)]
    decide
  · have h9 := (o2 e he).2 f hf
    rw [h20 e he f hf, nI_t (by omega)]
    omega
theorem link_Z {u : Nat → Int32} {x : Tx} (h5 : xNc x ≤ 5) (h6 : xNd x ≤ 6) (h114 : ∀ j, j < 40 → u j = rgF x (3 * xNc x) j) (hI : ∀ j, Ir (xNc x) (xNd x) j → j < 40 ∧ ¬ j < 3 * xNc x ∧ ¬ (15 ≤ j ∧ j < 21)) : ZI u (xNc x) (xNd x) := fun j hj => by
  obtain ⟨a, b, c⟩ := hI j hj
  rw [h114 j a]
  unfold rgF r0F
  rw [if_neg b, if_neg c]

