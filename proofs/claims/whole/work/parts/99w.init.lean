/-! the law from its entry -/
section
variable {L : Nat} {xs : Nat → Int32} {fm : Value} {Po : Option Value → ab_H → Prop}
theorem INV.zero {s' : Nat → Nat → Int32} {t' : Nat → Nat → Int64} {T : Nat → Int64} (h0 : s' 0 9 = -1) (h1 : s' 1 1 = 0) (h2 : s' 2 = fun _ => 0) (h8 : s' 8 5 = 0) (h10 : s' 10 1 = 0) (h11 : s' 11 39 = 0) (h14 : ∀ k, 11 ≤ k → k ≤ 15 → s' 14 k = 0) (h22 : s' 22 4 = 1 ∧ s' 24 0 = 1 ∧ s' 23 0 = -268) (h26 : s' 26 4 = 1 ∧ s' 28 0 = 1 ∧ s' 27 0 = 0) (h30 : s' 30 4 = 1 ∧ s' 32 0 = 1 ∧ s' 31 0 = -271) (h34 : s' 34 4 = 1 ∧ s' 36 0 = 1 ∧ s' 35 0 = 0) (h38 : s' 38 2 = 0 ∧ s' 38 3 = 0 ∧ s' 38 4 = 0) (h41 : s' 41 3 = 0) (h45 : s' 45 7 = -1) (h7 : t' 7 = T) (hT : ∀ k w, wdL[k]? = some w → T k = lN (cdL 32 w)) (f3 : WdR t') (f4 : DM s' 0 tx0) (f5 : ∀ k, k < 4 → s' 102 k = s' 103 k) (f6 : s' 82 = fun _ => 0) (f7 : s' 127 = fun _ => 0) (f8 : ∀ k, s' 81 k = if k = 17 then -1 else 0) (f9 : ∀ j, j < 40 → s' 114 j = rgF tx0 0 j) : INV 0 s' t' := by
  have ok : ∀ e : Ins, (e = (1, 0) ∨ e = (0, 0) ∨ e = (1, 3)) → okQ [e] 0 := fun e he => by
    rcases he with rfl | rfl | rfl
    · exact ⟨⟨by decide, by decide⟩, rfl⟩
    · exact ⟨⟨by decide, by decide⟩, rfl⟩
    · exact ⟨⟨by decide, by decide⟩, rfl⟩
  have hD : DrC (fun c => s' (pT c)) (fun c => t' (pT c)) tx0 := by
    refine ⟨⟨h14 11 (by decide) (by decide), Nat.zero_le _, fun c hc => absurd hc (Nat.not_lt_zero c)⟩, ⟨h14 12 (by decide) (by decide), Nat.zero_le _, fun c hc => absurd hc (Nat.not_lt_zero c)⟩, ⟨h14 13 (by decide) (by decide), Nat.zero_le _, fun c hc => absurd hc (Nat.not_lt_zero c)⟩, ⟨h14 14 (by decide) (by decide), h14 15 (by decide) (by decide)⟩, ?_, ?_, ?_, ?_⟩
    · exact cl_one (s := fun c => s' (pT c)) (p := 65) (e := (1, 0)) h22.1 h22.2.1 h22.2.2 (ok _ (Or.inl rfl))
    · exact cl_one (s := fun c => s' (pT c)) (p := 69) (e := (0, 0)) h26.1 h26.2.1 h26.2.2 (ok _ (Or.inr (Or.inl rfl)))
    · exact cl_one (s := fun c => s' (pT c)) (p := 73) (e := (1, 3)) h30.1 h30.2.1 h30.2.2 (ok _ (Or.inr (Or.inr rfl)))
    · exact cl_one (s := fun c => s' (pT c)) (p := 77) (e := (0, 0)) h34.1 h34.2.1 h34.2.2 (ok _ (Or.inr (Or.inl rfl)))
  have n0 : ∀ {P : Prop} {c : Nat}, c < 0 → P := fun h => absurd h (Nat.not_lt_zero _)
  refine ⟨tx0, 0, 0, 0, ⟨hD, f4, fun k hk => ⟨0, 0, by decide, by decide, Or.inl ⟨?_, rfl⟩⟩, ?_, by decide, ?_⟩, ⟨⟨fun j hj => n0 hj, fun j hj => n0 hj, fun j hj => n0 hj, ?_⟩, fun e he => n0 he, fun c f hc => n0 hc, fun e f he => n0 he, fun j hj => ?_⟩, ⟨h38.2.1, by decide, h38.2.2, by decide, ?_, fun i hi => n0 hi⟩, ⟨0, by decide, h38.1, fun i hi => ?_, fun i hi hb => ?_⟩, ⟨0, ⟨h41, by decide, fun i hi => n0 hi⟩, ?_, by decide, fun i hi => n0 hi⟩, ⟨⟨0, by decide, h1, ?_⟩, by rw [h2, f6], fun j => by rw [f6]; rfl⟩, ⟨?_, ⟨?_, f3⟩, ⟨0, by decide, h8⟩⟩, ⟨0, h10, by decide, Or.inl h45, fun z => ?_⟩⟩
  · rw [show 4 * 0 + k = k by omega]
    exact f5 k hk
  · rw [f8]; rfl
  · exact ⟨fun c hc => n0 hc, fun c hc => n0 hc, fun c hc => n0 hc, by decide, by decide⟩
  · rw [h11, f9 39 (by decide)]; rfl
  · unfold Ir at hj
    have hj' : j < 15 ∨ (21 ≤ j ∧ j < 39) := by
      rcases hj with hj | hj
      · exact Or.inl hj.2
      · exact Or.inr ⟨by have := hj.1; omega, hj.2⟩
    rw [f9 j (by omega)]
    unfold rgF r0F
    rw [if_neg (by omega), if_neg (by omega)]
  · rw [f8]; rfl
  · rw [f7, Nat.zero_testBit]; rfl
  · rw [Nat.zero_testBit] at hb; cases hb
  · rw [f8]; rfl
  · rw [f8]; rfl
  · rw [h0, f8]; rfl
  · unfold WdC
    rw [h7]
    exact hT
  · rw [h45, h10] at z
    exact absurd z (by decide)
set_option maxRecDepth 100000 in
theorem lw_init (hL : L ≤ 3072) (hPo : ∀ h, Po (some (.int 1)) h) (hv : fm = .null ∨ ∃ a, fm = .ref a) : ab_Z m_Lw_law 27 (129, 21237) Po 0 [some (.ref 9001), none, none, none] [] ([], (fun _ _ => 0), (fun _ _ => 0), roL fm [], L, xs) := by
  refine ab_nw ok_Lw_law (b' := (128, 21227)) rfl (n := 0) rfl rfl (by decide) rfl rfl ?_
  show ab_Z m_Lw_law _ _ _ 1 [_, _, _, _] [_] (shA.take 1, _, _, _, _)
  refine ab_go ok_Lw_law 1 rfl ?_
  show ab_Z m_Lw_law _ _ _ 2 [_, _, _, _] [_, _] _
  refine ab_clm ok_Lw_law (b' := (48, 11514)) (c := (80, 9713)) rfl [_] [_] rfl ⟨_, _, rfl, rfl, Or.inl ⟨_, _, rfl, rfl⟩⟩ (Nat.le_of_ble_eq_true rfl) (n := 1) rfl rfl rfl rfl (t_SF_init_0 21 _ _ _ (L, xs) hv) ?_
  rintro _ _ ⟨rfl, T, rfl, hT⟩
  show ab_Z m_Lw_law _ _ _ 3 [_, _, _, _] [_] (shA.take 81, _, _, _, _)
  refine ab_go ok_Lw_law 1 rfl ?_
  show ab_Z m_Lw_law _ _ _ 4 [_, _, _, _] [] _
  refine ab_nw ok_Lw_law (b' := (47, 11445)) rfl (n := 81) rfl rfl (by decide) rfl rfl ?_
  show ab_Z m_Lw_law _ _ _ 5 [_, _, _, _] [_] (shA.take 82, _, _, _, _)
  refine ab_go ok_Lw_law 1 rfl ?_
  show ab_Z m_Lw_law _ _ _ 6 [_, _, _, _] [_, _] _
  refine ab_clm ok_Lw_law (b' := (0, 0)) (c := (47, 11445)) rfl [_] [_] rfl ⟨_, _, rfl, rfl, Or.inl ⟨_, _, rfl, rfl⟩⟩ (Nat.le_of_ble_eq_true rfl) (n := 82) rfl rfl rfl rfl (t_Mo_init 23 _ _ _ (L, xs) fm (ro_all fm) rfl) ?_
  rintro _ _ ⟨rfl, s', t', rfl, f1, f2, f3, f4, f5, f6, f7, f8, f9⟩
  have hI : INV 0 s' t' := by
    refine INV.zero (T := T) ?_ ?_ ?_ ?_ ?_ ?_ ?_ ⟨?_, ?_, ?_⟩ ⟨?_, ?_, ?_⟩ ⟨?_, ?_, ?_⟩ ⟨?_, ?_, ?_⟩ ⟨?_, ?_, ?_⟩ ?_ ?_ ?_ hT f3 f4 f5 f6 f7 f8 f9
    · rw [f1 0 (by decide)]; rfl
    · rw [f1 1 (by decide)]; rfl
    · rw [f1 2 (by decide)]; rfl
    · rw [f1 8 (by decide)]; rfl
    · rw [f1 10 (by decide)]; rfl
    · rw [f1 11 (by decide)]; rfl
    · intro k h1 h2
      rw [f1 14 (by decide)]
      rcases (show k = 11 ∨ k = 12 ∨ k = 13 ∨ k = 14 ∨ k = 15 by omega) with rfl | rfl | rfl | rfl | rfl <;> rfl
    · rw [f1 22 (by decide)]; rfl
    · rw [f1 24 (by decide)]; rfl
    · rw [f1 23 (by decide)]; rfl
    · rw [f1 26 (by decide)]; rfl
    · rw [f1 28 (by decide)]; rfl
    · rw [f1 27 (by decide)]; rfl
    · rw [f1 30 (by decide)]; rfl
    · rw [f1 32 (by decide)]; rfl
    · rw [f1 31 (by decide)]; rfl
    · rw [f1 34 (by decide)]; rfl
    · rw [f1 36 (by decide)]; rfl
    · rw [f1 35 (by decide)]; rfl
    · rw [f1 38 (by decide)]; rfl
    · rw [f1 38 (by decide)]; rfl
    · rw [f1 38 (by decide)]; rfl
    · rw [f1 41 (by decide)]; rfl
    · rw [f1 45 (by decide)]; rfl
    · rw [f2 7 (by decide)]; rfl
  show ab_Z m_Lw_law _ _ _ 7 [_, _, _, _] [_] _
  refine ab_go ok_Lw_law 3 rfl ?_
  show ab_Z m_Lw_law _ _ _ 10 [_, _, _, _] [] _
  exact lw_loop hL hPo 600 0 false s' t' rfl (by omega) hI
end

