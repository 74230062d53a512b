/-! fed, taken back, told, forgotten; the plan -/
theorem by_8 (y : Int8) : y.toInt32.toInt8.toInt32 = y.toInt32 := by rw [Int8.toInt8_toInt32]
theorem fed_8 (a b c e g : Int32) (k : Nat) : (fedF a b c e g k).toInt8.toInt32 = fedF a b c e g k := by
  unfold fedF byF
  rw [Int8.toInt8_toInt32]
theorem inR_e {n : Nat} {x : Int32} (hn : n ≤ 1000) (h : inR n x) : x = nI x.toNatClampNeg := by
  obtain ⟨e, he, rfl⟩ := inR_nat h
  rw [nI_c (by omega)]
section
variable {n : Nat} (X : Nat × (Nat → Int32)) {s : Nat → Nat → Int32} {t : Nat → Nat → Int64}
theorem p_feed (h : INV n s t) (a b c e g : Int32) : Pair g_SF_feed g_Mo_feed 26 26 X [.int a, .int b, .int c, .int e, .int g] (n + 1) s t := by
  obtain ⟨q, lv, w, m, hT, hG, hM, hS, hO, hP, hW, hL⟩ := id h
  obtain ⟨⟨L, l1, l2, l3⟩, l4, l5⟩ := id hP
  intro fm
  refine ab_T_mono (t_SF_feed 25 fm X s t l2 l1 a b c e g) ?_
  rintro v _ ⟨rfl, rfl⟩
  refine ⟨_, _, t, false, rfl, rfl, fun fm => ?_⟩
  by_cases hb : L + 20 ≤ 2000
  · rw [if_pos hb, if_pos hb]
    have e81 : tpS s L 20 (fedF a b c e g) 81 = s 81 := by
      unfold tpS
      rw [ab_up_o (by decide), ab_ro_o (by decide)]
    refine ab_T_mono (t_Mo_feed 25 fm X _ t (L := L) (by rw [e81]; exact l3) l1 a b c e g) ?_
    rintro v _ ⟨rfl, rfl⟩
    refine ⟨_, _, t, false, rfl, rfl, if_pos hb, rfl, ?_⟩
    rw [if_pos hb]
    have o : ∀ y, y ≠ 1 → y ≠ 2 → y ≠ 81 → y ≠ 82 → tpR (tpS s L 20 (fedF a b c e g)) L 20 (fedF a b c e g) y = s y := fun y q1 q2 q3 q4 => by
      unfold tpR
      rw [ab_up_o q3, ab_ro_o q4]
      unfold tpS
      rw [ab_up_o q1, ab_ro_o q2]
    have o81 : ∀ k, k ≠ 2 → tpR (tpS s L 20 (fedF a b c e g)) L 20 (fedF a b c e g) 81 k = s 81 k := fun k hk => by
      unfold tpR
      rw [ab_up_n hk, ab_ro_o (by decide), e81]
    have e1 : tpR (tpS s L 20 (fedF a b c e g)) L 20 (fedF a b c e g) 1 1 = nI (L + 20) := rfl
    have e2 : tpR (tpS s L 20 (fedF a b c e g)) L 20 (fedF a b c e g) 2 = fillR (s 2) L 20 (fedF a b c e g) := rfl
    have e812 : tpR (tpS s L 20 (fedF a b c e g)) L 20 (fedF a b c e g) 81 2 = nI (L + 20) := rfl
    have e82 : tpR (tpS s L 20 (fedF a b c e g)) L 20 (fedF a b c e g) 82 = fillR (s 82) L 20 (fedF a b c e g) := rfl
    generalize tpR (tpS s L 20 (fedF a b c e g)) L 20 (fedF a b c e g) = s2 at *
    have r : ∀ y, (y ≠ 1 ∧ y ≠ 2 ∧ y ≠ 81 ∧ y ≠ 82) → s2 y = s y := fun y hy => o y hy.1 hy.2.1 hy.2.2.1 hy.2.2.2
    refine ⟨q, lv, w, m, hT.of (fun c k h1 h2 h3 => by rw [r c (by omega)]) ⟨rfl, rfl⟩ (fun c h1 h2 => r c (by omega)) (o81 18 (by decide)), ?_, hM.of (r 17 (by decide)) (by rw [r 38 (by decide)]) (by rw [r 38 (by decide)]) (o81 56 (by decide)) (r 39 (by decide)) (r 119 (by decide)), hS.of (r 17 (by decide)) (by rw [r 38 (by decide)]) (r 127 (by decide)) (r 40 (by decide)) (r 128 (by decide)), hO.of (by rw [r 41 (by decide)]) (r 42 (by decide)) (r 43 (by decide)) (r 44 (by decide)) (o81 63 (by decide)) (r 124 (by decide)) (r 125 (by decide)) (r 126 (by decide)), ⟨⟨L + 20, hb, e1, e812⟩, by rw [e2, e82, l4], fun j => ?_⟩, hW.of (by rw [r 0 (by decide)]) (o81 17 (by decide)) (by rw [r 8 (by decide)]) ⟨rfl, rfl⟩, hL.of (by omega) (by rw [r 10 (by decide)]) (by rw [r 45 (by decide)]) ⟨r 11 (by decide), r 16 (by decide), r 19 (by decide), r 20 (by decide)⟩ (r 47 (by decide)) rfl⟩
    · rw [r 17 (by decide), r 11 (by decide), r 114 (by decide)]
      exact hG
    · rw [e82]
      unfold fillR
      split
      · exact fed_8 _ _ _ _ _ _
      · exact l5 j
  · rw [if_neg hb, if_neg hb]
    refine ab_T_mono (t_Mo_feed 25 fm X s t (L := L) l3 l1 a b c e g) ?_
    rintro v _ ⟨rfl, rfl⟩
    refine ⟨_, _, t, false, rfl, rfl, if_neg hb, rfl, ?_⟩
    rw [if_neg hb]
    exact h.ka (KAl.rf s)
theorem p_back (h : INV n s t) (x : Int32) : Pair g_SF_back g_Mo_back 26 26 X [.int x] (n + 1) s t := by
  obtain ⟨q, lv, w, m, hT, hG, hM, hS, hO, hP, hW, hL⟩ := id h
  obtain ⟨⟨L, l1, l2, l3⟩, l4, l5⟩ := id hP
  intro fm
  refine ab_T_mono (t_SF_back 25 fm X s t l2 l1 x) ?_
  rintro v _ ⟨rfl, rfl⟩
  refine ⟨_, _, t, false, rfl, rfl, fun fm => ?_⟩
  by_cases hb : inR (L + 1) x
  · rw [if_pos hb, if_pos hb]
    refine ab_T_mono (t_Mo_back 26 fm X _ t (L := L) (by rw [ab_up_o (by decide)]; exact l3) l1 x) ?_
    rintro v _ ⟨rfl, rfl⟩
    refine ⟨_, _, t, false, rfl, rfl, if_pos hb, rfl, ?_⟩
    rw [if_pos hb]
    generalize L - x.toNatClampNeg = L', (show L - x.toNatClampNeg ≤ 2000 by omega) = hL'
    have r : ∀ y, (y ≠ 1 ∧ y ≠ 81) → ab_up (ab_up s 1 1 (nI L')) 81 2 (nI L') y = s y := fun y hy => by rw [ab_up_o hy.2, ab_up_o hy.1]
    have o81 : ∀ k, k ≠ 2 → ab_up (ab_up s 1 1 (nI L')) 81 2 (nI L') 81 k = s 81 k := fun k hk => by rw [ab_up_n hk, ab_up_o (by decide)]
    have e1 : ab_up (ab_up s 1 1 (nI L')) 81 2 (nI L') 1 1 = nI L' := rfl
    have e812 : ab_up (ab_up s 1 1 (nI L')) 81 2 (nI L') 81 2 = nI L' := rfl
    generalize ab_up (ab_up s 1 1 (nI L')) 81 2 (nI L') = s2 at *
    refine ⟨q, lv, w, m, hT.of (fun c k h1 h2 h3 => by rw [r c (by omega)]) ⟨rfl, rfl⟩ (fun c h1 h2 => r c (by omega)) (o81 18 (by decide)), ?_, hM.of (r 17 (by decide)) (by rw [r 38 (by decide)]) (by rw [r 38 (by decide)]) (o81 56 (by decide)) (r 39 (by decide)) (r 119 (by decide)), hS.of (r 17 (by decide)) (by rw [r 38 (by decide)]) (r 127 (by decide)) (r 40 (by decide)) (r 128 (by decide)), hO.of (by rw [r 41 (by decide)]) (r 42 (by decide)) (r 43 (by decide)) (r 44 (by decide)) (o81 63 (by decide)) (r 124 (by decide)) (r 125 (by decide)) (r 126 (by decide)), ⟨⟨L', hL', e1, e812⟩, by rw [r 2 (by decide), r 82 (by decide)]; exact l4, fun j => by rw [r 82 (by decide)]; exact l5 j⟩, hW.of (by rw [r 0 (by decide)]) (o81 17 (by decide)) (by rw [r 8 (by decide)]) ⟨rfl, rfl⟩, hL.of (by omega) (by rw [r 10 (by decide)]) (by rw [r 45 (by decide)]) ⟨r 11 (by decide), r 16 (by decide), r 19 (by decide), r 20 (by decide)⟩ (r 47 (by decide)) rfl⟩
    rw [r 17 (by decide), r 11 (by decide), r 114 (by decide)]
    exact hG
  · rw [if_neg hb, if_neg hb]
    refine ab_T_mono (t_Mo_back 26 fm X s t (L := L) l3 l1 x) ?_
    rintro v _ ⟨rfl, rfl⟩
    refine ⟨_, _, t, false, rfl, rfl, if_neg hb, rfl, ?_⟩
    rw [if_neg hb]
    exact h.ka (KAl.rf s)
theorem p_tell (h : INV n s t) (f v b : Int32) : Pair g_SF_tell g_Mo_tell 26 26 X [.int f, .int v, .int b] (n + 1) s t := by
  obtain ⟨q, lv, w, m, hT, hG, hM, hS, hO, hP, hW, hL⟩ := id h
  obtain ⟨k, ⟨k1, k2, k3⟩, k4, -, k5⟩ := id hO
  intro fm
  refine ab_T_mono (t_SF_tell 25 fm X s t k1 k2 f v b) ?_
  rintro _ _ ⟨rfl, rfl⟩
  refine ⟨_, _, t, false, rfl, rfl, fun fm => ?_⟩
  by_cases hb : (inR 3 f ∧ inR 10 v) ∧ k < 20
  · rw [if_pos hb, if_pos hb]
    have e81 : toldS s k f v b 81 = s 81 := by
      unfold toldS
      rw [ab_up_o (by decide), ab_up_o (by decide), ab_up_o (by decide), ab_up_o (by decide)]
    refine ab_T_mono (t_Mo_tell 24 fm X _ t (k := k) (by rw [e81]; exact k4) k2 f v b) ?_
    rintro _ _ ⟨rfl, rfl⟩
    refine ⟨_, _, t, false, rfl, rfl, if_pos hb, rfl, ?_⟩
    rw [if_pos hb]
    have r : ∀ y, (y ≠ 41 ∧ y ≠ 42 ∧ y ≠ 43 ∧ y ≠ 44 ∧ y ≠ 81 ∧ y ≠ 124 ∧ y ≠ 125 ∧ y ≠ 126) → toldR (toldS s k f v b) k f v b y = s y := fun y hy => by
      unfold toldR
      rw [ab_up_o (by omega), ab_up_o (by omega), ab_up_o (by omega), ab_up_o (by omega)]
      unfold toldS
      rw [ab_up_o (by omega), ab_up_o (by omega), ab_up_o (by omega), ab_up_o (by omega)]
    have o81 : ∀ j, j ≠ 63 → toldR (toldS s k f v b) k f v b 81 j = s 81 j := fun j hj => by
      unfold toldR
      rw [ab_up_n hj, ab_up_o (by decide), ab_up_o (by decide), ab_up_o (by decide), e81]
    have e413 : toldR (toldS s k f v b) k f v b 41 3 = nI (k + 1) := rfl
    have e8163 : toldR (toldS s k f v b) k f v b 81 63 = nI (k + 1) := rfl
    have e42 : toldR (toldS s k f v b) k f v b 42 = fun j => if j = k then f else s 42 j := rfl
    have e43 : toldR (toldS s k f v b) k f v b 43 = fun j => if j = k then v else s 43 j := rfl
    have e44 : toldR (toldS s k f v b) k f v b 44 = fun j => if j = k then b &&& 1 else s 44 j := rfl
    have e124 : toldR (toldS s k f v b) k f v b 124 = fun j => if j = k then f else s 124 j := rfl
    have e125 : toldR (toldS s k f v b) k f v b 125 = fun j => if j = k then v else s 125 j := rfl
    have e126 : toldR (toldS s k f v b) k f v b 126 = fun j => if j = k then b &&& 1 else s 126 j := rfl
    generalize toldR (toldS s k f v b) k f v b = s2 at *
    have hf : ∀ i, i < k + 1 → ∃ g, g < 3 ∧ s2 42 i = nI g := fun i hi => by
      rw [e42]
      show ∃ g, g < 3 ∧ (if i = k then f else s 42 i) = nI g
      by_cases hik : i = k
      · rw [if_pos hik]
        exact ⟨_, inR_lt hb.1.1, inR_e (by decide) hb.1.1⟩
      · rw [if_neg hik]
        exact k3 i (by omega)
    refine ⟨q, lv, w, m, hT.of (fun c k h1 h2 h3 => by rw [r c (by omega)]) ⟨rfl, rfl⟩ (fun c h1 h2 => r c (by omega)) (o81 18 (by decide)), ?_, hM.of (r 17 (by decide)) (by rw [r 38 (by decide)]) (by rw [r 38 (by decide)]) (o81 56 (by decide)) (r 39 (by decide)) (r 119 (by decide)), hS.of (r 17 (by decide)) (by rw [r 38 (by decide)]) (r 127 (by decide)) (r 40 (by decide)) (r 128 (by decide)), ⟨k + 1, ⟨e413, by omega, hf⟩, e8163, by omega, fun i hi => ?_⟩, hP.of (by rw [r 1 (by decide)]) (o81 2 (by decide)) (r 2 (by decide)) (r 82 (by decide)), hW.of (by rw [r 0 (by decide)]) (o81 17 (by decide)) (by rw [r 8 (by decide)]) ⟨rfl, rfl⟩, hL.of (by omega) (by rw [r 10 (by decide)]) (by rw [r 45 (by decide)]) ⟨r 11 (by decide), r 16 (by decide), r 19 (by decide), r 20 (by decide)⟩ (r 47 (by decide)) rfl⟩
    · rw [r 17 (by decide), r 11 (by decide), r 114 (by decide)]
      exact hG
    · refine ⟨?_, ?_, ?_, hf i hi⟩
      · rw [e124, e42]
        show (if i = k then f else s 124 i) = if i = k then f else s 42 i
        by_cases hik : i = k
        · rw [if_pos hik, if_pos hik]
        · rw [if_neg hik, if_neg hik]; exact (k5 i (by omega)).1
      · rw [e125, e43]
        show (if i = k then v else s 125 i) = if i = k then v else s 43 i
        by_cases hik : i = k
        · rw [if_pos hik, if_pos hik]
        · rw [if_neg hik, if_neg hik]; exact (k5 i (by omega)).2.1
      · rw [e126, e44]
        show (if i = k then b &&& 1 else s 126 i) = if i = k then b &&& 1 else s 44 i
        by_cases hik : i = k
        · rw [if_pos hik, if_pos hik]
        · rw [if_neg hik, if_neg hik]; exact (k5 i (by omega)).2.2.1
  · rw [if_neg hb, if_neg hb]
    refine ab_T_mono (t_Mo_tell 24 fm X s t (k := k) k4 k2 f v b) ?_
    rintro _ _ ⟨rfl, rfl⟩
    refine ⟨_, _, t, false, rfl, rfl, if_neg hb, rfl, ?_⟩
    rw [if_neg hb]
    exact h.ka (KAl.rf s)
theorem p_forget (h : INV n s t) : Pair g_SF_forget g_Mo_forget 26 26 X [] (n + 1) s t := by
  obtain ⟨q, lv, w, m, hT, hG, hM, hS, hO, hP, hW, hL⟩ := id h
  obtain ⟨k, ⟨k1, k2, k3⟩, k4, -, k5⟩ := id hO
  intro fm
  refine ab_T_mono (t_SF_forget 25 fm X s t) ?_
  rintro _ _ ⟨rfl, rfl⟩
  refine ⟨_, _, t, false, rfl, rfl, fun fm => ?_⟩
  refine ab_T_mono (t_Mo_forget 26 fm X _ t) ?_
  rintro _ _ ⟨rfl, rfl⟩
  refine ⟨_, _, t, false, rfl, rfl, ?_, rfl, ?_⟩
  · rw [ab_up_o (by decide), k4, k1]
  · have r : ∀ y, (y ≠ 41 ∧ y ≠ 81) → ab_up (ab_up s 41 3 0) 81 63 0 y = s y := fun y hy => by rw [ab_up_o hy.2, ab_up_o hy.1]
    have o81 : ∀ k, k ≠ 63 → ab_up (ab_up s 41 3 0) 81 63 0 81 k = s 81 k := fun k hk => by rw [ab_up_n hk, ab_up_o (by decide)]
    have e1 : ab_up (ab_up s 41 3 0) 81 63 0 41 3 = nI 0 := rfl
    have e2 : ab_up (ab_up s 41 3 0) 81 63 0 81 63 = nI 0 := rfl
    generalize ab_up (ab_up s 41 3 0) 81 63 0 = s2 at *
    refine ⟨q, lv, w, m, hT.of (fun c k h1 h2 h3 => by rw [r c (by omega)]) ⟨rfl, rfl⟩ (fun c h1 h2 => r c (by omega)) (o81 18 (by decide)), ?_, hM.of (r 17 (by decide)) (by rw [r 38 (by decide)]) (by rw [r 38 (by decide)]) (o81 56 (by decide)) (r 39 (by decide)) (r 119 (by decide)), hS.of (r 17 (by decide)) (by rw [r 38 (by decide)]) (r 127 (by decide)) (r 40 (by decide)) (r 128 (by decide)), ⟨0, ⟨e1, by omega, fun i hi => absurd hi (Nat.not_lt_zero i)⟩, e2, by omega, fun i hi => absurd hi (Nat.not_lt_zero i)⟩, hP.of (by rw [r 1 (by decide)]) (o81 2 (by decide)) (r 2 (by decide)) (r 82 (by decide)), hW.of (by rw [r 0 (by decide)]) (o81 17 (by decide)) (by rw [r 8 (by decide)]) ⟨rfl, rfl⟩, hL.of (by omega) (by rw [r 10 (by decide)]) (by rw [r 45 (by decide)]) ⟨r 11 (by decide), r 16 (by decide), r 19 (by decide), r 20 (by decide)⟩ (r 47 (by decide)) rfl⟩
    rw [r 17 (by decide), r 11 (by decide), r 114 (by decide)]
    exact hG
end

