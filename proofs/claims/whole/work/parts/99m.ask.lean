/-! pairs of calls that only ask (written by gen_pairs.py) -/
theorem slot_n : ∀ a, a < 8 → (if (if a.testBit 0 then (1 : Int32) else 0) = 0 then (0 : Int32) else 1) + (if (if a.testBit 1 then (1 : Int32) else 0) = 0 then 0 else 1) + (if (if a.testBit 2 then (1 : Int32) else 0) = 0 then 0 else 1) = bcF (nI a) := by decide +kernel
section
variable {n : Nat} (X : Nat × (Nat → Int32)) {s : Nat → Nat → Int32} {t : Nat → Nat → Int64}
theorem p_clerk (h : INV n s t) (x y : Int32) : Pair g_SF_clerk g_Mo_clerk 26 26 X [.int x, .int y] (n + 1) s t := by
  obtain ⟨q, lv, w, m, hT, hG, hM, hS, hO, hP, hW, -⟩ := id h
  have hQ := hT.Q hG
  have hC : CI s (xNc q) (xNd q) (xNt q) (xLw q 0) (xLw q 1) (xLw q 2) (xLw q 3) := ⟨hT.C, hQ.1⟩
  refine pair_q h (fun fm => P2.C (t_SF_clerk 22 fm X s t hC x y)) (fun fm s1 hk => ?_)
  obtain ⟨hr, hV⟩ := mref hT hG hk
  have k := t_Mo_clerk 24 fm X s1 s t hr x y
  rw [hV] at k
  exact k
theorem p_deed (h : INV n s t) (x y : Int32) : Pair g_SF_deed g_Mo_deed 26 26 X [.int x, .int y] (n + 1) s t := by
  obtain ⟨q, lv, w, m, hT, hG, hM, hS, hO, hP, hW, -⟩ := id h
  have hQ := hT.Q hG
  have hC : CI s (xNc q) (xNd q) (xNt q) (xLw q 0) (xLw q 1) (xLw q 2) (xLw q 3) := ⟨hT.C, hQ.1⟩
  refine pair_q h (fun fm => P2.C (t_SF_deed 20 fm X s t hC x y)) (fun fm s1 hk => ?_)
  obtain ⟨hr, hV⟩ := mref hT hG hk
  have k := t_Mo_deed 23 fm X s1 s t hr (by rw [hV]; exact hQ) x y
  rw [hV] at k
  exact k
theorem p_treaty (h : INV n s t) (x y : Int32) : Pair g_SF_treaty g_Mo_treaty 26 26 X [.int x, .int y] (n + 1) s t := by
  obtain ⟨q, lv, w, m, hT, hG, hM, hS, hO, hP, hW, -⟩ := id h
  have hQ := hT.Q hG
  have hC : CI s (xNc q) (xNd q) (xNt q) (xLw q 0) (xLw q 1) (xLw q 2) (xLw q 3) := ⟨hT.C, hQ.1⟩
  refine pair_q h (fun fm => P2.C (t_SF_treaty 23 fm X s t hC x y)) (fun fm s1 hk => ?_)
  obtain ⟨hr, hV⟩ := mref hT hG hk
  have k := t_Mo_treaty 25 fm X s1 s t hr (by rw [hV]; exact hQ) x y
  rw [hV] at k
  exact k
theorem p_takes (h : INV n s t) (x y z : Int32) : Pair g_SF_takes g_Mo_takes 26 26 X [.int x, .int y, .int z] (n + 1) s t := by
  obtain ⟨q, lv, w, m, hT, hG, hM, hS, hO, hP, hW, -⟩ := id h
  have hQ := hT.Q hG
  have hC : CI s (xNc q) (xNd q) (xNt q) (xLw q 0) (xLw q 1) (xLw q 2) (xLw q 3) := ⟨hT.C, hQ.1⟩
  refine pair_q h (fun fm => P2.C (t_SF_takes 21 fm X s t hC x y z)) (fun fm s1 hk => ?_)
  obtain ⟨hr, hV⟩ := mref hT hG hk
  have k := t_Mo_takes 23 fm X s1 s t hr x y z
  rw [hV] at k
  exact k
theorem p_hands (h : INV n s t) (x : Int32) : Pair g_SF_hands g_Mo_hands 26 26 X [.int x] (n + 1) s t := by
  obtain ⟨q, lv, w, m, hT, hG, hM, hS, hO, hP, hW, -⟩ := id h
  have hQ := hT.Q hG
  have hC : CI s (xNc q) (xNd q) (xNt q) (xLw q 0) (xLw q 1) (xLw q 2) (xLw q 3) := ⟨hT.C, hQ.1⟩
  refine pair_q h (fun fm => P2.C (t_SF_hands 20 fm X s t hC x)) (fun fm s1 hk => ?_)
  obtain ⟨hr, hV⟩ := mref hT hG hk
  have k := t_Mo_hands 21 fm X s1 s t hr x
  rw [hV] at k
  exact k
theorem p_work (h : INV n s t) (x : Int32) : Pair g_SF_work g_Mo_work 26 26 X [.int x] (n + 1) s t := by
  obtain ⟨q, lv, w, m, hT, hG, hM, hS, hO, hP, hW, -⟩ := id h
  have hQ := hT.Q hG
  have hC : CI s (xNc q) (xNd q) (xNt q) (xLw q 0) (xLw q 1) (xLw q 2) (xLw q 3) := ⟨hT.C, hQ.1⟩
  refine pair_q h (fun fm => P2.C (t_SF_work 20 fm X s t hC x)) (fun fm s1 hk => ?_)
  obtain ⟨hr, hV⟩ := mref hT hG hk
  have k := t_Mo_work 21 fm X s1 s t hr x
  rw [hV] at k
  exact k
theorem p_lent (h : INV n s t) (x y : Int32) : Pair g_SF_lent g_Mo_lent 26 26 X [.int x, .int y] (n + 1) s t := by
  obtain ⟨q, lv, w, m, hT, hG, hM, hS, hO, hP, hW, -⟩ := id h
  have hQ := hT.Q hG
  have hC : CI s (xNc q) (xNd q) (xNt q) (xLw q 0) (xLw q 1) (xLw q 2) (xLw q 3) := ⟨hT.C, hQ.1⟩
  refine pair_q h (fun fm => P2.C (t_SF_lent 24 fm X s t hC x y)) (fun fm s1 hk => ?_)
  obtain ⟨hr, hV⟩ := mref hT hG hk
  have k := t_Mo_lent 24 fm X s1 s t hr x y
  rw [hV] at k
  exact k
theorem p_apart (h : INV n s t) (x y : Int32) : Pair g_SF_apart g_Mo_apart 26 26 X [.int x, .int y] (n + 1) s t := by
  obtain ⟨q, lv, w, m, hT, hG, hM, hS, hO, hP, hW, -⟩ := id h
  have hQ := hT.Q hG
  have hC : CI s (xNc q) (xNd q) (xNt q) (xLw q 0) (xLw q 1) (xLw q 2) (xLw q 3) := ⟨hT.C, hQ.1⟩
  refine pair_q h (fun fm => P2.C (t_SF_apart 23 fm X s t hC x y)) (fun fm s1 hk => ?_)
  obtain ⟨hr, hV⟩ := mref hT hG hk
  have k := t_Mo_apart 24 fm X s1 s t hr (by rw [hV]; exact hQ) x y
  rw [hV] at k
  exact k
theorem p_levelIn (h : INV n s t) (x y z : Int32) : Pair g_SF_levelIn g_Mo_levelIn 26 26 X [.int x, .int y, .int z] (n + 1) s t := by
  obtain ⟨q, lv, w, m, hT, hG, hM, hS, hO, hP, hW, -⟩ := id h
  have hQ := hT.Q hG
  have hC : CI s (xNc q) (xNd q) (xNt q) (xLw q 0) (xLw q 1) (xLw q 2) (xLw q 3) := ⟨hT.C, hQ.1⟩
  refine pair_q h (fun fm => P2.C (t_SF_levelIn 21 fm X s t hC x y z)) (fun fm s1 hk => ?_)
  obtain ⟨hr, hV⟩ := mref hT hG hk
  have k := t_Mo_levelIn 21 fm X s1 s t hr (by rw [hV]; exact hQ) x y z
  rw [hV] at k
  exact k
theorem p_printIn (h : INV n s t) (x y z : Int32) : Pair g_SF_printIn g_Mo_printIn 26 26 X [.int x, .int y, .int z] (n + 1) s t := by
  obtain ⟨q, lv, w, m, hT, hG, hM, hS, hO, hP, hW, -⟩ := id h
  have hQ := hT.Q hG
  have hC : CI s (xNc q) (xNd q) (xNt q) (xLw q 0) (xLw q 1) (xLw q 2) (xLw q 3) := ⟨hT.C, hQ.1⟩
  refine pair_q h (fun fm => P2.C (t_SF_printIn 21 fm X s t hC x y z)) (fun fm s1 hk => ?_)
  obtain ⟨hr, hV⟩ := mref hT hG hk
  have k := t_Mo_printIn 21 fm X s1 s t hr (by rw [hV]; exact hQ) x y z
  rw [hV] at k
  exact k
theorem p_bindsIn (h : INV n s t) (x : Int32) : Pair g_SF_bindsIn g_Mo_bindsIn 26 26 X [.int x] (n + 1) s t := by
  obtain ⟨q, lv, w, m, hT, hG, hM, hS, hO, hP, hW, -⟩ := id h
  have hQ := hT.Q hG
  have hC : CI s (xNc q) (xNd q) (xNt q) (xLw q 0) (xLw q 1) (xLw q 2) (xLw q 3) := ⟨hT.C, hQ.1⟩
  refine pair_q h (fun fm => P2.C (t_SF_bindsIn 19 fm X s t hC x)) (fun fm s1 hk => ?_)
  obtain ⟨hr, hV⟩ := mref hT hG hk
  have k := t_Mo_bindsIn 21 fm X s1 s t hr (by rw [hV]; exact hQ) x
  rw [hV] at k
  exact k
theorem p_reads (h : INV n s t) (x : Int32) : Pair g_SF_reads g_Mo_reads 26 26 X [.int x] (n + 1) s t := by
  obtain ⟨q, lv, w, m, hT, hG, hM, hS, hO, hP, hW, -⟩ := id h
  have hQ := hT.Q hG
  have hC : CI s (xNc q) (xNd q) (xNt q) (xLw q 0) (xLw q 1) (xLw q 2) (xLw q 3) := ⟨hT.C, hQ.1⟩
  refine pair_q h (fun fm => P2.C (t_SF_reads 23 fm X s t hC x)) (fun fm s1 hk => ?_)
  obtain ⟨hr, hV⟩ := mref hT hG hk
  have k := t_Mo_reads 23 fm X s1 s t hr hC.1.1 (by rw [hV]; exact hQ) x
  rw [hV] at k
  exact k
theorem p_year (h : INV n s t) (x y : Int32) : Pair g_SF_year g_Mo_year 26 26 X [.int x, .int y] (n + 1) s t := by
  obtain ⟨q, lv, w, m, hT, hG, hM, hS, hO, hP, hW, -⟩ := id h
  have hQ := hT.Q hG
  have hC : CI s (xNc q) (xNd q) (xNt q) (xLw q 0) (xLw q 1) (xLw q 2) (xLw q 3) := ⟨hT.C, hQ.1⟩
  refine pair_q h (fun fm => P2.C (t_SF_year 23 fm X s t hC x y)) (fun fm s1 hk => ?_)
  obtain ⟨hr, hV⟩ := mref hT hG hk
  have k := t_Mo_year 23 fm X s1 s t hr hC.1.1 (by rw [hV]; exact hQ) x y
  rw [hV] at k
  exact k
theorem p_greatest (h : INV n s t) (x : Int32) : Pair g_SF_greatest g_Mo_greatest 26 26 X [.int x] (n + 1) s t := by
  obtain ⟨q, lv, w, m, hT, hG, hM, hS, hO, hP, hW, -⟩ := id h
  have hQ := hT.Q hG
  have hC : CI s (xNc q) (xNd q) (xNt q) (xLw q 0) (xLw q 1) (xLw q 2) (xLw q 3) := ⟨hT.C, hQ.1⟩
  refine pair_q h (fun fm => P2.C (t_SF_greatest 20 fm X s t hC x)) (fun fm s1 hk => ?_)
  obtain ⟨hr, hV⟩ := mref hT hG hk
  have k := t_Mo_greatest 23 fm X s1 s t hr (by rw [hV]; exact hQ) x
  rw [hV] at k
  exact k
theorem p_barest (h : INV n s t) (x : Int32) : Pair g_SF_barest g_Mo_barest 26 26 X [.int x] (n + 1) s t := by
  obtain ⟨q, lv, w, m, hT, hG, hM, hS, hO, hP, hW, -⟩ := id h
  have hQ := hT.Q hG
  have hC : CI s (xNc q) (xNd q) (xNt q) (xLw q 0) (xLw q 1) (xLw q 2) (xLw q 3) := ⟨hT.C, hQ.1⟩
  refine pair_q h (fun fm => P2.C (t_SF_barest 23 fm X s t hC x)) (fun fm s1 hk => ?_)
  obtain ⟨hr, hV⟩ := mref hT hG hk
  have k := t_Mo_barest 25 fm X s1 s t hr x
  rw [hV] at k
  exact k
theorem p_weakest (h : INV n s t) (x : Int32) : Pair g_SF_weakest g_Mo_weakest 26 26 X [.int x] (n + 1) s t := by
  obtain ⟨q, lv, w, m, hT, hG, hM, hS, hO, hP, hW, -⟩ := id h
  have hQ := hT.Q hG
  have hC : CI s (xNc q) (xNd q) (xNt q) (xLw q 0) (xLw q 1) (xLw q 2) (xLw q 3) := ⟨hT.C, hQ.1⟩
  refine pair_q h (fun fm => P2.C (t_SF_weakest 19 fm X s t hC x)) (fun fm s1 hk => ?_)
  obtain ⟨hr, hV⟩ := mref hT hG hk
  have k := t_Mo_weakest 22 fm X s1 s t hr (by rw [hV]; exact hQ) x
  rw [hV] at k
  exact k
theorem p_like (h : INV n s t) (x : Int32) : Pair g_SF_like g_Mo_like 26 26 X [.int x] (n + 1) s t := by
  obtain ⟨q, lv, w, m, hT, hG, hM, hS, hO, hP, hW, -⟩ := id h
  have hQ := hT.Q hG
  have hC : CI s (xNc q) (xNd q) (xNt q) (xLw q 0) (xLw q 1) (xLw q 2) (xLw q 3) := ⟨hT.C, hQ.1⟩
  refine pair_q h (fun fm => P2.C (t_SF_like 23 fm X s t hC x)) (fun fm s1 hk => ?_)
  obtain ⟨hr, hV⟩ := mref hT hG hk
  have k := t_Mo_like 23 fm X s1 s t hr (by rw [hV]; exact hQ) x
  rw [hV] at k
  exact k
theorem p_twins (h : INV n s t) (x y : Int32) : Pair g_SF_twins g_Mo_twins 26 26 X [.int x, .int y] (n + 1) s t := by
  obtain ⟨q, lv, w, m, hT, hG, hM, hS, hO, hP, hW, -⟩ := id h
  have hQ := hT.Q hG
  have hC : CI s (xNc q) (xNd q) (xNt q) (xLw q 0) (xLw q 1) (xLw q 2) (xLw q 3) := ⟨hT.C, hQ.1⟩
  refine pair_q h (fun fm => P2.C (t_SF_twins 23 fm X s t hC x y)) (fun fm s1 hk => ?_)
  obtain ⟨hr, hV⟩ := mref hT hG hk
  have k := t_Mo_twins 24 fm X s1 s t hr (by rw [hV]; exact hQ) x y
  rw [hV] at k
  exact k
theorem p_heals (h : INV n s t) (x : Int32) : Pair g_SF_heals g_Mo_heals 26 26 X [.int x] (n + 1) s t := by
  obtain ⟨q, lv, w, m, hT, hG, hM, hS, hO, hP, hW, -⟩ := id h
  have hQ := hT.Q hG
  have hC : CI s (xNc q) (xNd q) (xNt q) (xLw q 0) (xLw q 1) (xLw q 2) (xLw q 3) := ⟨hT.C, hQ.1⟩
  refine pair_q h (fun fm => P2.C (t_SF_heals 21 fm X s t hC x)) (fun fm s1 hk => ?_)
  obtain ⟨hr, hV⟩ := mref hT hG hk
  have k := t_Mo_heals 22 fm X s1 s t hr (by rw [hV]; exact hQ) x
  rw [hV] at k
  exact k
theorem p_blank (h : INV n s t) (x : Int32) : Pair g_SF_blank g_Mo_blank 26 26 X [.int x] (n + 1) s t := by
  obtain ⟨q, lv, w, m, hT, hG, hM, hS, hO, hP, hW, -⟩ := id h
  have hQ := hT.Q hG
  have hC : CI s (xNc q) (xNd q) (xNt q) (xLw q 0) (xLw q 1) (xLw q 2) (xLw q 3) := ⟨hT.C, hQ.1⟩
  refine pair_q h (fun fm => P2.C (t_SF_blank 21 fm X s t hC x)) (fun fm s1 hk => ?_)
  obtain ⟨hr, hV⟩ := mref hT hG hk
  have k := t_Mo_blank 22 fm X s1 s t hr (by rw [hV]; exact hQ) x
  rw [hV] at k
  exact k
theorem p_match (h : INV n s t) (x : Int32) : Pair g_SF_match g_Mo_match 26 26 X [.int x] (n + 1) s t := by
  obtain ⟨q, lv, w, m, hT, hG, hM, hS, hO, hP, hW, -⟩ := id h
  have hQ := hT.Q hG
  have hC : CI s (xNc q) (xNd q) (xNt q) (xLw q 0) (xLw q 1) (xLw q 2) (xLw q 3) := ⟨hT.C, hQ.1⟩
  refine pair_q h (fun fm => t_SF_match 19 fm X s t hC x) (fun fm s1 hk => ?_)
  obtain ⟨hr, hV⟩ := mref hT hG hk
  have k := t_Mo_match 20 fm X s1 s t hr x
  rw [hV] at k
  exact k
theorem p_game (h : INV n s t) (x : Int32) : Pair g_SF_game g_Mo_game 26 26 X [.int x] (n + 1) s t := by
  obtain ⟨q, lv, w, m, hT, hG, hM, hS, hO, hP, hW, -⟩ := id h
  have hQ := hT.Q hG
  have hC : CI s (xNc q) (xNd q) (xNt q) (xLw q 0) (xLw q 1) (xLw q 2) (xLw q 3) := ⟨hT.C, hQ.1⟩
  refine pair_q h (fun fm => t_SF_game 19 fm X s t hC x) (fun fm s1 hk => ?_)
  obtain ⟨hr, hV⟩ := mref hT hG hk
  have k := t_Mo_game 21 fm X s1 s t hr (by rw [hV]; exact hQ) x
  rw [hV] at k
  exact k
theorem p_breaks (h : INV n s t) (x : Int32) : Pair g_SF_breaks g_Mo_breaks 26 26 X [.int x] (n + 1) s t := by
  obtain ⟨q, lv, w, m, hT, hG, hM, hS, hO, hP, hW, -⟩ := id h
  have hQ := hT.Q hG
  have hC : CI s (xNc q) (xNd q) (xNt q) (xLw q 0) (xLw q 1) (xLw q 2) (xLw q 3) := ⟨hT.C, hQ.1⟩
  refine pair_q h (fun fm => t_SF_breaks 21 fm X s t hC x) (fun fm s1 hk => ?_)
  obtain ⟨hr, hV⟩ := mref hT hG hk
  have k := t_Mo_breaks 25 fm X s1 s t hr (by rw [hV]; exact hQ) x
  rw [hV] at k
  exact k
theorem p_who (h : INV n s t) (x y z : Int32) : Pair g_SF_who g_Mo_who 26 26 X [.int x, .int y, .int z] (n + 1) s t := by
  obtain ⟨q, lv, w, m, hT, hG, hM, hS, hO, hP, hW, -⟩ := id h
  have hQ := hT.Q hG
  have hC : CI s (xNc q) (xNd q) (xNt q) (xLw q 0) (xLw q 1) (xLw q 2) (xLw q 3) := ⟨hT.C, hQ.1⟩
  obtain ⟨nk, hI, hR⟩ := hO
  refine pair_q h (fun fm => P2.C (t_SF_who 20 fm X s t hC hI x y z)) (fun fm s1 hk => ?_)
  obtain ⟨hr, hV⟩ := mref hT hG hk
  have hR1 : RTo s1 s nk := by
    unfold RTo
    rw [hk 81 63 rfl (by decide) (by decide), show s1 124 = s 124 from funext fun k => hk 124 k rfl (by decide) (by decide), show s1 125 = s 125 from funext fun k => hk 125 k rfl (by decide) (by decide), show s1 126 = s 126 from funext fun k => hk 126 k rfl (by decide) (by decide)]
    exact hR
  have k := t_Mo_who 20 fm X s1 s t hr hR1 x y z
  rw [hV] at k
  exact k
theorem p_look (h : INV n s t) (x y z : Int32) : Pair g_SF_look g_Mo_look 26 26 X [.int x, .int y, .int z] (n + 1) s t := by
  obtain ⟨q, lv, w, m, hT, hG, hM, hS, hO, hP, hW, -⟩ := id h
  have hQ := hT.Q hG
  have hC : CI s (xNc q) (xNd q) (xNt q) (xLw q 0) (xLw q 1) (xLw q 2) (xLw q 3) := ⟨hT.C, hQ.1⟩
  obtain ⟨nk, hI, hR⟩ := hO
  refine pair_q h (fun fm => P2.C (t_SF_look 20 fm X s t hC hI x y z)) (fun fm s1 hk => ?_)
  obtain ⟨hr, hV⟩ := mref hT hG hk
  have hR1 : RTo s1 s nk := by
    unfold RTo
    rw [hk 81 63 rfl (by decide) (by decide), show s1 124 = s 124 from funext fun k => hk 124 k rfl (by decide) (by decide), show s1 125 = s 125 from funext fun k => hk 125 k rfl (by decide) (by decide), show s1 126 = s 126 from funext fun k => hk 126 k rfl (by decide) (by decide)]
    exact hR
  have k := t_Mo_look 20 fm X s1 s t hr hR1 x y z
  rw [hV] at k
  exact k
theorem p_count (h : INV n s t) (x : Int32) : Pair g_SF_count g_Mo_count 26 26 X [.int x] (n + 1) s t := by
  obtain ⟨q, lv, w, m, hT, hG, hM, hS, hO, hP, hW, -⟩ := id h
  have hQ := hT.Q hG
  have hC : CI s (xNc q) (xNd q) (xNt q) (xLw q 0) (xLw q 1) (xLw q 2) (xLw q 3) := ⟨hT.C, hQ.1⟩
  refine pair_q h (fun fm => P2.C (t_SF_count 19 fm X s t hC x)) (fun fm s1 hk => ?_)
  obtain ⟨hr, hV⟩ := mref hT hG hk
  have e : ∀ c k, 81 ≤ c → s1 c k = s c k := fun c k hc => hk c k (scr1_hi (by omega) k) (by omega) (by omega)
  have hZ : ZI (s1 114) (xNc q) (xNd q) := fun j hj => by rw [e 114 j (by decide)]; exact hG.2.2.2.2 j hj
  have h8 : s1 81 2 = s 1 1 := by
    obtain ⟨⟨L, -, a, b⟩, -⟩ := hP
    rw [e 81 2 (by decide), a, b]
  have h9 : s1 81 56 = s 38 4 := by rw [e 81 56 (by decide), hM.2.2.2.2.1, hM.2.2.1]
  have h10 : s1 81 63 = s 41 3 := by
    obtain ⟨nk, a, b⟩ := hO
    rw [e 81 63 (by decide), a.1, b.1]
  have h11 : (if s1 127 0 = 0 then (0 : Int32) else 1) + (if s1 127 1 = 0 then 0 else 1) + (if s1 127 2 = 0 then 0 else 1) = bcF (s 38 2) := by
    obtain ⟨a, ha, h1, h2, -⟩ := hS
    rw [e 127 0 (by decide), e 127 1 (by decide), e 127 2 (by decide), h2 0 (by decide), h2 1 (by decide), h2 2 (by decide), h1]
    exact slot_n a ha
  have k := t_Mo_count 21 fm X s1 s t hr (by rw [hV]; exact hQ) hZ h8 h9 h10 h11 x
  rw [hV] at k
  exact k
theorem p_place (h : INV n s t) : Pair g_SF_place g_Mo_place 26 26 X [] (n + 1) s t := by
  refine pair_q h (r := s 0 9) (fun fm => ab_T_mono (t_SF_place 26 fm X s t) ?_) (fun fm s1 hk => ?_)
  · rintro v _ ⟨rfl, rfl⟩
    exact ⟨rfl, s, rfl, KpC.rf s⟩
  · obtain ⟨q, lv, w, m, hT, hG, hM, hS, hO, hP, hW, -⟩ := id h
    refine ab_T_mono (t_Mo_place 26 fm X s1 t) ?_
    rintro v _ ⟨rfl, rfl⟩
    refine ⟨?_, s1, rfl, Kr.rf _ _⟩
    rw [hk 81 17 rfl (by decide) (by decide), hW.1]
end

