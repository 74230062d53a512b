/-! a text read, on both sides -/
theorem wMp_lo {sd c : Nat} (h : c ≤ 80) (k : Nat) : ¬ wMp sd c k := by
  intro z
  unfold wMp at z
  omega
theorem wMp_at {sd c : Nat} (h : c = 82 ∨ c = 119 ∨ c = 124 ∨ c = 125 ∨ c = 126 ∨ c = 127 ∨ c = 128 ∨ c = 114) (k : Nat) : ¬ wMp sd c k := by
  intro z
  unfold wMp at z
  omega
theorem wMp_81 {sd k : Nat} (h : k = 2 ∨ k = 17 ∨ k = 18 ∨ k = 56 ∨ k = 63) : ¬ wMp sd 81 k := by
  intro z
  unfold wMp at z
  omega
theorem DrC.zt {s s' : Nat → Nat → Int32} {t t' : Nat → Nat → Int64} {x : Tx} (e : ∀ c, 57 ≤ c → c ≤ 80 → s' c = s c) (e58 : t' 58 = t 58) (e61 : t' 61 = t 61) (hD : DrC s t x) : DrC s' t' x := ⟨hD.1.of (by rw [e 57 (by decide) (by decide)]) (e 59 (by decide) (by decide)) (e 60 (by decide) (by decide)) e58, hD.2.1.of (by rw [e 57 (by decide) (by decide)]) (e 62 (by decide) (by decide)) (e 63 (by decide) (by decide)) e61, hD.2.2.1.of (by rw [e 57 (by decide) (by decide)]) (e 64 (by decide) (by decide)), hD.2.2.2.1.of (by rw [e 57 (by decide) (by decide)]) (by rw [e 57 (by decide) (by decide)]), hD.2.2.2.2.of (fun c h1 h2 => e c (by omega) h2)⟩
theorem pT_tx {c : Nat} (h1 : 57 ≤ c) (h2 : c ≤ 80) : 14 ≤ pT c ∧ pT c ≤ 37 := by
  unfold pT
  rw [if_neg (by omega), if_pos ⟨h1, h2⟩]
  omega
section
variable {n : Nat} (X : Nat × (Nat → Int32)) {s : Nat → Nat → Int32} {t : Nat → Nat → Int64}
theorem read_bad {s1 s2 : Nat → Nat → Int32} {t1 t2 : Nat → Nat → Int64} {b : Nat → Int32} {L lv : Nat} {x : Tx} {w m : Nat} (hT : IT s t x lv) (hG : GR (s 17) (xNc x) (xNd x) (s 11) (s 114)) (hM : IM s x w m) (hS : IS s x) (hO : IOt s) (hP : IP s) (hW : IW s t) (hL : IL n s t x) (k1 : KC s s1) (kt1 : ∀ c, c ≠ 6 → c ≠ 58 → c ≠ 61 → t1 c = t c) (hz : ∃ z, z ≤ 400 ∧ s1 8 5 = nI z) (h11 : s1 1 1 = 0) (h09 : s1 0 9 = nI (rdP (tkP b L) (fOf b L))) (kt2 : ∀ c, c ≠ 87 → c ≠ 89 → t2 c = t1 c) (k2 : KV0 (1 - lv) s1 s2) (h17 : s2 81 17 = nI (rdP (tkP b L) (fOf b L))) (h2 : s2 81 2 = 0) : INV (n + 1) s2 t2 := by
  have lo : ∀ c, c ≤ 80 → s2 c = s1 c := fun c hc => funext fun k => k2 c k (wMp_lo hc k) (by omega) (by omega) (by omega) (by omega) (by omega)
  have c1 : ∀ c, c ≠ 8 → ¬ (57 ≤ c ∧ c ≤ 80) → c ≠ 4 → c ≠ 5 → c ≠ 3 → c ≠ 1 → c ≠ 0 → s1 c = s c := fun c a1 a2 a3 a4 a5 a6 a7 => funext fun k => k1 c k a1 a2 a3 a4 (by omega) (by omega) (by omega)
  have l : ∀ c, c = 2 ∨ (9 ≤ c ∧ c ≤ 56) → s2 c = s c := fun c hc => (lo c (by omega)).trans (c1 c (by omega) (by omega) (by omega) (by omega) (by omega) (by omega) (by omega))
  have hi : ∀ c, c = 82 ∨ c = 119 ∨ c = 124 ∨ c = 125 ∨ c = 126 ∨ c = 127 ∨ c = 128 ∨ c = 114 → s2 c = s c := fun c hc => (funext fun k => k2 c k (wMp_at hc k) (by omega) (by omega) (by omega) (by omega) (by omega)).trans (c1 c (by omega) (by omega) (by omega) (by omega) (by omega) (by omega) (by omega))
  have e81 : s1 81 = s 81 := c1 81 (by decide) (by decide) (by decide) (by decide) (by decide) (by decide) (by decide)
  have h81 : ∀ k, k = 18 ∨ k = 56 ∨ k = 63 → s2 81 k = s 81 k := fun k hk => by
    rw [← e81]
    exact k2 81 k (wMp_81 (by omega)) (by omega) (by decide) (by decide) (by decide) (by decide)
  have tt : ∀ c, c ≠ 6 → c ≠ 58 → c ≠ 61 → c ≠ 87 → c ≠ 89 → t2 c = t c := fun c a1 a2 a3 a4 a5 => (kt2 c a4 a5).trans (kt1 c a1 a2 a3)
  have hm : ∀ c k, 91 ≤ c → c ≤ 110 → ¬ wMp (1 - lv) c k → s2 c k = s c k := fun c k a1 a2 a3 => (k2 c k a3 (by omega) (by omega) (by omega) (by omega) (by omega)).trans (by rw [c1 c (by omega) (by omega) (by omega) (by omega) (by omega) (by omega) (by omega)])
  obtain ⟨i1, i2, i3, i4, i5, i6⟩ := hT
  obtain ⟨-, p2, p3⟩ := hP
  obtain ⟨-, ⟨w1, w2⟩, -⟩ := hW
  refine ⟨x, lv, w, m, ⟨DrC.zt (s := fun c => s (pT c)) (t := fun c => t (pT c)) (fun c a1 a2 => l (pT c) (Or.inr ?_)) (tt 15 (by decide) (by decide) (by decide) (by decide) (by decide)) (tt 18 (by decide) (by decide) (by decide) (by decide) (by decide)) i1, i2.kv i5 hm, fun k hk => ?_, (h81 18 (by decide)).trans i4, i5, i6⟩, ?_, hM.of (l 17 (by decide)) (by rw [l 38 (by decide)]) (by rw [l 38 (by decide)]) (h81 56 (by decide)) (l 39 (by decide)) (hi 119 (by decide)), hS.of (l 17 (by decide)) (by rw [l 38 (by decide)]) (hi 127 (by decide)) (l 40 (by decide)) (hi 128 (by decide)), hO.of (by rw [l 41 (by decide)]) (l 42 (by decide)) (l 43 (by decide)) (l 44 (by decide)) (h81 63 (by decide)) (hi 124 (by decide)) (hi 125 (by decide)) (hi 126 (by decide)), ⟨⟨0, by decide, ?_, h2⟩, by rw [l 2 (by decide), hi 82 (by decide)]; exact p2, fun j => by rw [hi 82 (by decide)]; exact p3 j⟩, ⟨?_, ⟨?_, ?_⟩, ?_⟩, hL.of (by omega) (by rw [l 10 (by decide)]) (by rw [l 45 (by decide)]) ⟨l 11 (by decide), l 16 (by decide), l 19 (by decide), l 20 (by decide)⟩ (l 47 (by decide)) (tt 46 (by decide) (by decide) (by decide) (by decide) (by decide))⟩
  · have := pT_tx a1 a2
    omega
  · obtain ⟨c, b', q1, q2, q3⟩ := i3 k hk
    exact ⟨c, b', q1, q2, q3.kv i5 hk hm q1 q2⟩
  · rw [l 17 (by decide), l 11 (by decide), hi 114 (by decide)]
    exact hG
  · rw [lo 1 (by decide)]; exact h11
  · rw [lo 0 (by decide), h09, h17]
  · unfold WdC
    rw [tt 7 (by decide) (by decide) (by decide) (by decide) (by decide)]
    exact w1
  · unfold WdR
    rw [tt 88 (by decide) (by decide) (by decide) (by decide) (by decide)]
    exact w2
  · rw [lo 8 (by decide)]; exact hz
theorem read_good {sA s' s1 s2 : Nat → Nat → Int32} {t' t2 : Nat → Nat → Int64} {r : Nat → Int32} {lv : Nat} {x y : Tx} {w m : Nat} (hn : n ≤ 511) (hT : IT s t x lv) (hM : IM s x w m) (hP : IP s) (hW : IW s t) (hL : IL n s t x) (k1 : KC s sA) (kt1 : ∀ c, c ≠ 6 → c ≠ 58 → c ≠ 61 → t' c = t c) (hz : ∃ z, z ≤ 400 ∧ sA 8 5 = nI z) (h11 : sA 1 1 = 0) (h09 : sA 0 9 = -1) (hn40 : Sn sA s' r 40) (hr : ∀ j, j < 40 → r j = begR (sA 60) j) (hD : DrC sA t' y) (hx : okX y) (hs1 : s1 = fun c => ab_up (ab_up (ab_up s' 38 4 0) 38 2 0) 41 3 0 (pT c)) (kt2 : ∀ c, c ≠ 87 → c ≠ 89 → t2 c = t' (pT c)) (k2 : KV (1 - lv) s1 s2) (hR : RdG (1 - lv) s2 y) : INV (n + 1) s2 t2 := by
  obtain ⟨n1, n2, n3⟩ := hn40
  have lo : ∀ c, c ≤ 80 → s2 c = s1 c := fun c hc => funext fun k => k2 c k (wMp_lo hc k) (by omega) (by omega) (by omega) (by omega) (by omega) (by omega) (by omega) (by omega)
  have c1 : ∀ c, c ≠ 8 → ¬ (57 ≤ c ∧ c ≤ 80) → c ≠ 4 → c ≠ 5 → c ≠ 3 → c ≠ 1 → c ≠ 0 → sA c = s c := fun c a1 a2 a3 a4 a5 a6 a7 => funext fun k => k1 c k a1 a2 a3 a4 (by omega) (by omega) (by omega)
  have u1 : ∀ c, c ≠ 38 → c ≠ 41 → pT c = c → s1 c = s' c := fun c a1 a2 a3 => by
    rw [hs1]
    show ab_up (ab_up (ab_up s' 38 4 0) 38 2 0) 41 3 0 (pT c) = _
    rw [a3, ab_up_o a2, ab_up_o a1, ab_up_o a1]
  have v1 : ∀ c, c ≠ 10 → c ≠ 11 → c ≠ 12 → c ≠ 13 → ¬ (14 ≤ c ∧ c ≤ 37) → s' c = sA c := fun c a1 a2 a3 a4 a5 => funext fun k => n3 c k (by unfold scr1; simp; omega) (by omega) (by omega) (by omega)
  have tx : ∀ c, 57 ≤ c → c ≤ 80 → s2 (pT c) = sA c := fun c a1 a2 => by
    have := pT_tx a1 a2
    rw [lo (pT c) (by omega), hs1]
    show ab_up (ab_up (ab_up s' 38 4 0) 38 2 0) 41 3 0 (pT (pT c)) = _
    rw [pT_pT, ab_up_o (by omega), ab_up_o (by omega), ab_up_o (by omega), v1 c (by omega) (by omega) (by omega) (by omega) (by omega)]
  have l : ∀ c, c = 2 ∨ c = 39 ∨ c = 45 → s2 c = s c := fun c hc => by
    rw [lo c (by omega), u1 c (by omega) (by omega) (by unfold pT; rw [if_neg (by omega), if_neg (by omega)]), v1 c (by omega) (by omega) (by omega) (by omega) (by omega), c1 c (by omega) (by omega) (by omega) (by omega) (by omega) (by omega) (by omega)]
  have la : ∀ c, c = 0 ∨ c = 1 ∨ c = 8 → s2 c = sA c := fun c hc => by
    rw [lo c (by omega), u1 c (by omega) (by omega) (by unfold pT; rw [if_neg (by omega), if_neg (by omega)]), v1 c (by omega) (by omega) (by omega) (by omega) (by omega)]
  have e82 : s2 82 = s 82 := by
    rw [show s2 82 = s1 82 from funext fun k => k2 82 k (wMp_at (by decide) k) (by omega) (by decide) (by decide) (by decide) (by decide) (by decide) (by decide) (by decide), u1 82 (by decide) (by decide) rfl, v1 82 (by decide) (by decide) (by decide) (by decide) (by decide), c1 82 (by decide) (by decide) (by decide) (by decide) (by decide) (by decide) (by decide)]
  have e11 : s2 11 = r := by rw [lo 11 (by decide), u1 11 (by decide) (by decide) rfl, n1]
  have e10 : s2 10 1 = s 10 1 + nI 40 := by rw [lo 10 (by decide), u1 10 (by decide) (by decide) rfl, n2, c1 10 (by decide) (by decide) (by decide) (by decide) (by decide) (by decide) (by decide)]
  have s38 : s' 38 = s 38 := by rw [v1 38 (by decide) (by decide) (by decide) (by decide) (by decide), c1 38 (by decide) (by decide) (by decide) (by decide) (by decide) (by decide) (by decide)]
  have e383 : s2 38 3 = nI w := by
    rw [lo 38 (by decide), hs1]
    show s' 38 3 = _
    rw [s38]; exact hM.1
  have e384 : s2 38 4 = nI 0 := by rw [lo 38 (by decide), hs1]; rfl
  have e382 : s2 38 2 = nI 0 := by rw [lo 38 (by decide), hs1]; rfl
  have e413 : s2 41 3 = nI 0 := by rw [lo 41 (by decide), hs1]; rfl
  have tt : ∀ c, c ≠ 6 → c ≠ 58 → c ≠ 61 → c ≠ 87 → c ≠ 89 → pT c = c → t2 c = t c := fun c a1 a2 a3 a4 a5 a6 => by rw [kt2 c a4 a5, a6, kt1 c a1 a2 a3]
  obtain ⟨g1, g2, g3, g4, g5, g6, g7, g8, g9, g10⟩ := hR
  have hC2 : DrC (fun c => s2 (pT c)) (fun c => t2 (pT c)) y := DrC.zt (fun c a1 a2 => tx c a1 a2) (by show t2 (pT 58) = t' 58; rw [kt2 (pT 58) (by decide) (by decide), pT_pT]) (by show t2 (pT 61) = t' 61; rw [kt2 (pT 61) (by decide) (by decide), pT_pT]) hD
  have hT2 : IT s2 t2 y (1 - lv) := ⟨hC2, g1, g2, g3, by omega, hx⟩
  have h5 : xNc y ≤ 5 := hT2.C.2.1
  have h6 : xNd y ≤ 6 := hT2.C.2.2.2.1
  have hr2 : ∀ j, j < 40 → s2 11 j = begR (sA 60) j := fun j hj => by rw [e11]; exact hr j hj
  have hg : ∀ c, c < xNc y → ∀ f, f < 3 → sA 60 (3 * c + f) = nI (xFc y (3 * c + f)) := fun c hc f hf => (hD.1.2.2 c hc).2.2.2 f hf
  have hGR : GR (s2 17) (xNc y) (xNd y) (s2 11) (s2 114) := by
    refine GR.do (nt := xNt y) h5 h6 ?_ ?_ ?_
    · rw [ro_id]
      exact link_V h5 h6 hr2 hg g10
    · rw [ro_id]
      exact link_Q h5 h6 hx hr2 hg (fun c hc f hf => (hC2.1.2.2 c hc).2.2.2 f hf) (fun e he f hf => (hC2.2.1.2.2 e he).2.2.2 f hf) (fun k hk => hC2.2.2.1.2.2 k hk)
    · exact link_Z h5 h6 g10 (fun j hj => by unfold Ir at hj; omega)
  obtain ⟨-, p2, p3⟩ := hP
  obtain ⟨-, ⟨w1, w2⟩, -⟩ := hW
  refine ⟨y, 1 - lv, w, 0, hT2, hGR, ⟨e383, hM.2.1, e384, by decide, g6, fun i hi => absurd hi (Nat.not_lt_zero i)⟩, ⟨0, by decide, e382, fun i hi => ?_, fun i hi hb => ?_⟩, ⟨0, ⟨e413, by decide, fun i hi => absurd hi (Nat.not_lt_zero i)⟩, g7, by decide, fun i hi => absurd hi (Nat.not_lt_zero i)⟩, ⟨⟨0, by decide, ?_, g5⟩, by rw [l 2 (by decide), e82]; exact p2, fun j => by rw [e82]; exact p3 j⟩, ⟨?_, ⟨?_, ?_⟩, ?_⟩, IL.up hn (by decide) (by decide) e10 (by rw [l 45 (by decide)]) hL⟩
  · rw [g9 i hi, Nat.zero_testBit]; rfl
  · rw [Nat.zero_testBit] at hb; cases hb
  · rw [la 1 (by decide)]; exact h11
  · rw [la 0 (by decide), h09, g4]
  · unfold WdC
    rw [tt 7 (by decide) (by decide) (by decide) (by decide) (by decide) rfl]
    exact w1
  · unfold WdR
    rw [tt 88 (by decide) (by decide) (by decide) (by decide) (by decide) rfl]
    exact w2
  · rw [la 8 (by decide)]; exact hz
theorem p_read (hn : n ≤ 511) (h : INV n s t) : Pair g_SF_read g_Mo_read 26 26 X [] (n + 1) s t := by
  obtain ⟨q, lv, w, m, hT, hG, hM, hS, hO, hP, hW, hL⟩ := id h
  obtain ⟨⟨L, l1, l2, l3⟩, l4, l5⟩ := id hP
  intro fm
  refine ab_T_mono (t_SF_read 0 fm X s t (b := s 2) rfl hW.2.1.1 l2 l1 hW.2.2) ?_
  rintro v h' ⟨rfl, bad, good⟩
  by_cases h0 : rdN (fOf (s 2) L) = 0
  · obtain ⟨sA, s', t', r, rfl, k1, kt1, hz, h11, h09, hSn, hr, y, hy, hD⟩ := good h0
    refine ⟨_, fun c => ab_up (ab_up (ab_up s' 38 4 0) 38 2 0) 41 3 0 (pT c), fun c => t' (pT c), true, rfl, ?_, fun fm => ?_⟩
    · show HC fm X _ t' = HC fm X _ _
      rw [show (fun c => ab_up (ab_up (ab_up s' 38 4 0) 38 2 0) 41 3 0 (pT (pT c))) = ab_up (ab_up (ab_up s' 38 4 0) 38 2 0) 41 3 0 from funext fun c => by rw [pT_pT], show (fun c => t' (pT (pT c))) = t' from funext fun c => by rw [pT_pT]]
    · generalize hs1 : (fun c => ab_up (ab_up (ab_up s' 38 4 0) 38 2 0) 41 3 0 (pT c)) = s1
      have e : ∀ c, 81 ≤ c → s1 c = s c := fun c hc => by
        rw [← hs1]
        show ab_up (ab_up (ab_up s' 38 4 0) 38 2 0) 41 3 0 (pT c) = _
        rw [pT_hi hc, ab_up_o (by omega), ab_up_o (by omega), ab_up_o (by omega)]
        exact funext fun k => (hSn.2.2 c k (scr1_hi (by omega) k) (by omega) (by omega) (by omega)).trans (k1 c k (by omega) (by omega) (by omega) (by omega) (by omega) (by omega) (by omega))
      have hw : WdR (fun c => t' (pT c)) := by
        unfold WdR
        show ∀ k w, wdL[k]? = some w → t' 88 k = _
        rw [kt1 88 (by decide) (by decide) (by decide)]
        exact hW.2.1.2
      refine ab_T_mono (t_Mo_read 19 fm X s1 (fun c => t' (pT c)) hw (L := L) (lv := lv) (by rw [e 81 (by decide)]; exact l3) l1 (by rw [e 81 (by decide)]; exact hT.2.2.2.1) hT.2.2.2.2.1 (fun j _ => by rw [e 82 (by decide)]; exact l5 j) (b := s 2) (by rw [e 82 (by decide)]; exact l4)) ?_
      rintro v _ ⟨rfl, s2, t2, rfl, kt2, -, gd⟩
      obtain ⟨k2, y2, hy2, hR⟩ := gd h0
      have ey : y2 = y := by
        rw [hy] at hy2
        cases hy2; rfl
      subst ey
      exact ⟨_, s2, t2, false, rfl, rfl, rfl, rfl, read_good hn hT hM hP hW hL k1 kt1 hz h11 h09 hSn hr hD (good_X hy h0) hs1.symm kt2 k2 hR⟩
  · obtain ⟨s1, t1, rfl, k1, kt1, hz, h11, h09⟩ := bad h0
    refine ⟨_, s1, t1, false, rfl, rfl, fun fm => ?_⟩
    have e : ∀ c, 81 ≤ c → s1 c = s c := fun c hc => funext fun k => k1 c k (by omega) (by omega) (by omega) (by omega) (by omega) (by omega) (by omega)
    have hw : WdR t1 := by
      unfold WdR
      rw [kt1 88 (by decide) (by decide) (by decide)]
      exact hW.2.1.2
    refine ab_T_mono (t_Mo_read 19 fm X s1 t1 hw (L := L) (lv := lv) (by rw [e 81 (by decide)]; exact l3) l1 (by rw [e 81 (by decide)]; exact hT.2.2.2.1) hT.2.2.2.2.1 (fun j _ => by rw [e 82 (by decide)]; exact l5 j) (b := s 2) (by rw [e 82 (by decide)]; exact l4)) ?_
    rintro v _ ⟨rfl, s2, t2, rfl, kt2, bd, -⟩
    obtain ⟨k2, h17, h2⟩ := bd h0
    exact ⟨_, s2, t2, false, rfl, rfl, rfl, rfl, read_bad hT hG hM hS hO hP hW hL k1 kt1 hz h11 h09 kt2 k2 h17 h2⟩
end

