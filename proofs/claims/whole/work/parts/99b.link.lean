/-! one text on both sides -/
theorem CLaw.mv {s u : Nat → Nat → Int32} {p q : Nat} {Q : List (List Ins)} (h0 : u p = s q) (h1 : u (p + 1) = s (q + 1)) (h2 : u (p + 2) = s (q + 2)) (h : CLaw s q Q) : CLaw u p Q := by
  unfold CLaw at h ⊢
  rw [h0, h1, h2]
  exact h
theorem link_T {s u : Nat → Nat → Int32} {t : Nat → Nat → Int64} {sd : Nat} {x : Tx} (hu : ∀ c, 57 ≤ c → c ≤ 80 → u (c - 43) = s c) (hC : DrC s t x) (hD : DM u sd x) (h18 : u 81 18 = nI sd) (hs2 : sd < 2) : RT u sd u (xNc x) (xNd x) (xNt x) := by
  have e : ∀ c, c < 24 → u (14 + c) = s (57 + c) := fun c hc => by
    have := hu (57 + c) (by omega) (by omega)
    rw [show 57 + c - 43 = 14 + c by omega] at this
    exact this
  have e14 : u 14 = s 57 := e 0 (by decide)
  have e16 : u 16 = s 59 := e 2 (by decide)
  have e17 : u 17 = s 60 := e 3 (by decide)
  have e19 : u 19 = s 62 := e 5 (by decide)
  have e20 : u 20 = s 63 := e 6 (by decide)
  have e21 : u 21 = s 64 := e 7 (by decide)
  obtain ⟨h1, h2, h3, h4⟩ := hD
  obtain ⟨c1, c2, c3, c4, c5⟩ := hC
  refine ⟨h18, hs2, ⟨h1.1, h1.2.1⟩, ⟨h2.1, h2.2.1⟩, ⟨h3.1, h3.2.1⟩, fun c hc => ?_, fun c f hc hf => ?_, fun e he => ?_, fun e f he hf => ?_, fun k hk => ?_, ?_, ?_⟩
  · rw [e16, (h1.2.2 c hc).1, (c1.2.2 c hc).1]
  · rw [show 15 * sd + 3 * c + f = 3 * (5 * sd + c) + f by omega, e17, (h1.2.2 c hc).2 f hf, (c1.2.2 c hc).2.2.2 f hf]
  · rw [e19, (h2.2.2 e he).1, (c2.2.2 e he).1]
  · rw [show 18 * sd + 3 * e + f = 3 * (6 * sd + e) + f by omega, e20, (h2.2.2 e he).2 f hf, (c2.2.2 e he).2.2.2 f hf]
  · have hk' : k < xNt x := hk
    rw [e21, (h3.2.2 k hk).1, (h3.2.2 k hk).2, c3.2.2 (2 * k) (show 2 * k < 2 * xNt x by omega), c3.2.2 (2 * k + 1) (show 2 * k + 1 < 2 * xNt x by omega)]
    exact ⟨rfl, rfl⟩
  · rw [e14, h4.1, c4.1]
  · rw [e14, h4.2, c4.2]
theorem link_L {u : Nat → Nat → Int32} {sd : Nat} {x : Tx} (hs2 : sd < 2) (h : ∀ k, k < 4 → ∃ c b, c ≤ 420 * sd + 400 ∧ b ≤ 130 * sd + 100 ∧ LwM u sd k (xLw x k) (xLw tx0 k) c b) : RLs u sd (xLw x 0) (xLw x 1) (xLw x 2) (xLw x 3) := by
  have g : ∀ k, k < 4 → RLaw u (4 * sd + k) (xLw x k) (xLw tx0 k) := fun k hk => by
    obtain ⟨c, b, h1, h2, h3⟩ := h k hk
    exact h3.R (by omega) (by omega)
  exact ⟨g 0 (by decide), g 1 (by decide), g 2 (by decide), g 3 (by decide)⟩
/-- cells of side sd are none of side 1 - sd -/
theorem wM_o {sd : Nat} (hs2 : sd < 2) {c k : Nat} (h : (c = 92 ∧ 5 * sd ≤ k ∧ k < 5 * sd + 5) ∨ (c = 93 ∧ 15 * sd ≤ k ∧ k < 15 * sd + 15) ∨ (c = 95 ∧ 6 * sd ≤ k ∧ k < 6 * sd + 6) ∨ (c = 96 ∧ 18 * sd ≤ k ∧ k < 18 * sd + 18) ∨ ((c = 98 ∨ c = 99) ∧ 6 * sd ≤ k ∧ k < 6 * sd + 6) ∨ ((c = 91 ∨ c = 94 ∨ c = 97 ∨ c = 100 ∨ c = 101) ∧ k = sd) ∨ ((c = 102 ∨ c = 103) ∧ 4 * sd ≤ k ∧ k < 4 * sd + 4) ∨ (104 ≤ c ∧ c ≤ 108 ∧ 130 * sd ≤ k ∧ k < 130 * sd + 130) ∨ ((c = 109 ∨ c = 110) ∧ 420 * sd ≤ k ∧ k < 420 * sd + 420)) : ¬ wMp (1 - sd) c k := by
  intro z
  unfold wMp at z
  rcases z with z | z | z | z | z | z | z | z | z | z | z | z
  all_goals omega
theorem DM.kv {s s' : Nat → Nat → Int32} {sd : Nat} {x : Tx} (hs2 : sd < 2) (h : ∀ c k, 91 ≤ c → c ≤ 110 → ¬ wMp (1 - sd) c k → s' c k = s c k) (g : DM s sd x) : DM s' sd x := by
  obtain ⟨g1, g2, g3, g4⟩ := g
  have n1 : xNc x ≤ 5 := g1.2.1
  have n2 : xNd x ≤ 6 := g2.2.1
  have n3 : xNt x ≤ 6 := g3.2.1
  have cn : ∀ c, c = 91 ∨ c = 94 ∨ c = 97 ∨ c = 100 ∨ c = 101 → s' c sd = s c sd := fun c hc => h c sd (by omega) (by omega) (wM_o hs2 (Or.inr (Or.inr (Or.inr (Or.inr (Or.inr (Or.inl ⟨hc, rfl⟩)))))))
  refine ⟨⟨(cn 91 (by omega)).trans g1.1, g1.2.1, fun c hc => ?_⟩, ⟨(cn 94 (by omega)).trans g2.1, g2.2.1, fun c hc => ?_⟩, ⟨(cn 97 (by omega)).trans g3.1, g3.2.1, fun k hk => ?_⟩, (cn 100 (by omega)).trans g4.1, (cn 101 (by omega)).trans g4.2⟩
  · have hc' : c < xNc x := hc
    refine ⟨(h 92 _ (by decide) (by decide) (wM_o hs2 (Or.inl ⟨rfl, by omega, by omega⟩))).trans (g1.2.2 c hc).1, fun f hf => (h 93 _ (by decide) (by decide) (wM_o hs2 (Or.inr (Or.inl ⟨rfl, by omega, by omega⟩)))).trans ((g1.2.2 c hc).2 f hf)⟩
  · have hc' : c < xNd x := hc
    refine ⟨(h 95 _ (by decide) (by decide) (wM_o hs2 (Or.inr (Or.inr (Or.inl ⟨rfl, by omega, by omega⟩))))).trans (g2.2.2 c hc).1, fun f hf => (h 96 _ (by decide) (by decide) (wM_o hs2 (Or.inr (Or.inr (Or.inr (Or.inl ⟨rfl, by omega, by omega⟩)))))).trans ((g2.2.2 c hc).2 f hf)⟩
  · have hk' : k < xNt x := hk
    exact ⟨(h 98 _ (by decide) (by decide) (wM_o hs2 (Or.inr (Or.inr (Or.inr (Or.inr (Or.inl ⟨by omega, by omega, by omega⟩))))))).trans (g3.2.2 k hk).1, (h 99 _ (by decide) (by decide) (wM_o hs2 (Or.inr (Or.inr (Or.inr (Or.inr (Or.inl ⟨by omega, by omega, by omega⟩))))))).trans (g3.2.2 k hk).2⟩
theorem LwM.kv {s s' : Nat → Nat → Int32} {sd k : Nat} {Q pl : List (List Ins)} {c b : Nat} (hs2 : sd < 2) (hk : k < 4) (h : ∀ c k, 91 ≤ c → c ≤ 110 → ¬ wMp (1 - sd) c k → s' c k = s c k) (hc : c ≤ 420 * sd + 400) (hb : b ≤ 130 * sd + 100) (g : LwM s sd k Q pl c b) : LwM s' sd k Q pl c b := by
  have l7 : ∀ y, y = 102 ∨ y = 103 → s' y (4 * sd + k) = s y (4 * sd + k) := fun y hy => h y _ (by omega) (by omega) (wM_o hs2 (Or.inr (Or.inr (Or.inr (Or.inr (Or.inr (Or.inr (Or.inl ⟨hy, by omega, by omega⟩))))))))
  refine g.of (l7 102 (by omega)) (l7 103 (by omega)) (fun j h1 h2 => ⟨?_, ?_⟩) (fun y j h1 h2 h3 h4 => ?_) (Nat.le_refl _) (Nat.le_refl _)
  · exact h 109 j (by decide) (by decide) (wM_o hs2 (Or.inr (Or.inr (Or.inr (Or.inr (Or.inr (Or.inr (Or.inr (Or.inr ⟨Or.inl rfl, by omega, by omega⟩)))))))))
  · exact h 110 j (by decide) (by decide) (wM_o hs2 (Or.inr (Or.inr (Or.inr (Or.inr (Or.inr (Or.inr (Or.inr (Or.inr ⟨Or.inr rfl, by omega, by omega⟩)))))))))
  · exact h y j (by omega) (by omega) (wM_o hs2 (Or.inr (Or.inr (Or.inr (Or.inr (Or.inr (Or.inr (Or.inr (Or.inl ⟨h1, h2, by omega, by omega⟩)))))))))

