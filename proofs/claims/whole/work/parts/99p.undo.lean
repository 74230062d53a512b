/-! undone, held, gone on from -/
theorem ring_pop {g ring his : Nat → Int32} {nc nd w m : Nat} (hw : w < 40) (hm : m ≤ 40) (h0 : 0 < m) (hold : ∀ i, i < m → GR g nc nd (fun j => ring (40 * ((w + 40 - m + i) % 40) + j)) (fun j => his (40 * i + j))) : (∀ i, i < m - 1 → GR g nc nd (fun j => ring (40 * (((if 0 < w then w - 1 else 39) + 40 - (m - 1) + i) % 40) + j)) (fun j => his (40 * i + j))) ∧ GR g nc nd (fun j => ring (40 * (if 0 < w then w - 1 else 39) + j)) (fun j => his (40 * (m - 1) + j)) := by
  refine ⟨fun i hi => ?_, ?_⟩
  · have := hold i (by omega)
    rw [show (w + 40 - m + i) % 40 = ((if 0 < w then w - 1 else 39) + 40 - (m - 1) + i) % 40 by split <;> omega] at this
    exact this
  · have := hold (m - 1) (by omega)
    rw [show (w + 40 - m + (m - 1)) % 40 = (if 0 < w then w - 1 else 39) by split <;> omega] at this
    exact this
theorem sl_or : ∀ a, a < 8 → ∀ k, k < 3 → nI a ||| (1 <<< (nI k &&& 31)) = nI (a ||| 2 ^ k) ∧ (a ||| 2 ^ k) < 8 ∧ ∀ i, i < 3 → (a ||| 2 ^ k).testBit i = (a.testBit i || decide (i = k)) := by decide +kernel
theorem sl_hb : ∀ a, a < 8 → ∀ k, k < 3 → hbF (nI a) (nI k) = a.testBit k := by decide +kernel
section
variable {n : Nat} (X : Nat × (Nat → Int32)) {s : Nat → Nat → Int32} {t : Nat → Nat → Int64}
theorem p_undo (hn : n ≤ 511) (h : INV n s t) : Pair g_SF_undo g_Mo_undo 26 26 X [] (n + 1) s t := by
  obtain ⟨q, lv, w, m, hT, hG, hM, hS, hO, hP, hW, hL⟩ := id h
  have h5 : xNc q ≤ 5 := hT.C.2.1
  have h6 : xNd q ≤ 6 := hT.C.2.2.2.1
  obtain ⟨m1, m2, m3, m4, m5, m6⟩ := id hM
  intro fm
  refine ab_T_mono (t_SF_undo 24 fm X s t m1 m2 m3 m4) ?_
  rintro v _ ⟨rfl, rfl⟩
  refine ⟨_, _, t, false, rfl, rfl, fun fm => ?_⟩
  by_cases h0 : 0 < m
  · rw [if_pos h0]
    have e81 : memB s w m 81 = s 81 := by
      unfold memB upSt
      rw [ab_up_o (by decide), ab_ro_o (by decide), ab_up_o (by decide), ab_up_o (by decide)]
    refine ab_T_mono (t_Mo_undo 26 fm X (memB s w m) t (u := m) (by rw [e81]; exact m5) m4) ?_
    rintro v _ ⟨rfl, rfl⟩
    refine ⟨_, _, t, false, rfl, rfl, rfl, rfl, ?_⟩
    rw [if_pos h0]
    have o : ∀ c, c ≠ 10 → c ≠ 11 → c ≠ 38 → c ≠ 81 → c ≠ 114 → unR (memB s w m) m c = s c := fun c a1 a2 a3 a4 a5 => by
      unfold unR
      rw [ab_ro_o a5, ab_up_o a4]
      unfold memB upSt
      rw [ab_up_o a1, ab_ro_o a2, ab_up_o a3, ab_up_o a3]
    have o81 : ∀ k, k ≠ 56 → unR (memB s w m) m 81 k = s 81 k := fun k hk => by
      unfold unR
      rw [ab_ro_o (by decide), ab_up_n hk, e81]
    have e10 : unR (memB s w m) m 10 1 = s 10 1 + nI 1 := rfl
    have e11 : unR (memB s w m) m 11 = va_cpy (s 39) (s 11) (40 * (if 0 < w then w - 1 else 39)) 0 40 := rfl
    have e114 : unR (memB s w m) m 114 = fillR (s 114) 0 40 (fun j => s 119 (40 * (m - 1) + j)) := rfl
    have e382 : unR (memB s w m) m 38 2 = s 38 2 := rfl
    have e383 : unR (memB s w m) m 38 3 = nI (if 0 < w then w - 1 else 39) := rfl
    have e384 : unR (memB s w m) m 38 4 = nI (m - 1) := rfl
    have e8156 : unR (memB s w m) m 81 56 = nI (m - 1) := rfl
    generalize unR (memB s w m) m = s2 at *
    obtain ⟨p1, p2⟩ := ring_pop m2 m4 h0 m6
    have e17 := o 17 (by decide) (by decide) (by decide) (by decide) (by decide)
    refine ⟨q, lv, if 0 < w then w - 1 else 39, m - 1, hT.of (fun c k h1 h2 h3 => by rw [o c (by omega) (by omega) (by omega) (by omega) (by omega)]) ⟨rfl, rfl⟩ (fun c h1 h2 => o c (by omega) (by omega) (by omega) (by omega) (by omega)) (o81 18 (by decide)), ?_, ⟨e383, by split <;> omega, e384, by omega, e8156, ?_⟩, hS.of e17 e382 (o 127 (by decide) (by decide) (by decide) (by decide) (by decide)) (o 40 (by decide) (by decide) (by decide) (by decide) (by decide)) (o 128 (by decide) (by decide) (by decide) (by decide) (by decide)), hO.of (by rw [o 41 (by decide) (by decide) (by decide) (by decide) (by decide)]) (o 42 (by decide) (by decide) (by decide) (by decide) (by decide)) (o 43 (by decide) (by decide) (by decide) (by decide) (by decide)) (o 44 (by decide) (by decide) (by decide) (by decide) (by decide)) (o81 63 (by decide)) (o 124 (by decide) (by decide) (by decide) (by decide) (by decide)) (o 125 (by decide) (by decide) (by decide) (by decide) (by decide)) (o 126 (by decide) (by decide) (by decide) (by decide) (by decide)), hP.of (by rw [o 1 (by decide) (by decide) (by decide) (by decide) (by decide)]) (o81 2 (by decide)) (o 2 (by decide) (by decide) (by decide) (by decide) (by decide)) (o 82 (by decide) (by decide) (by decide) (by decide) (by decide)), hW.of (by rw [o 0 (by decide) (by decide) (by decide) (by decide) (by decide)]) (o81 17 (by decide)) (by rw [o 8 (by decide) (by decide) (by decide) (by decide) (by decide)]) ⟨rfl, rfl⟩, IL.up hn (k := 1) (by decide) (by decide) e10 (by rw [o 45 (by decide) (by decide) (by decide) (by decide) (by decide)]) hL⟩
    · rw [e17, e11, e114]
      refine GR.cg h5 h6 rfl (fun j hj => ?_) (fun j hj => ?_) p2
      · unfold va_cpy
        rw [if_pos (by omega), Nat.sub_zero]
      · unfold fillR
        rw [if_pos (by omega), Nat.sub_zero]
    · rw [e17, o 39 (by decide) (by decide) (by decide) (by decide) (by decide), o 119 (by decide) (by decide) (by decide) (by decide) (by decide)]
      exact p1
  · rw [if_neg h0]
    refine ab_T_mono (t_Mo_undo 26 fm X s t (u := m) m5 m4) ?_
    rintro v _ ⟨rfl, rfl⟩
    refine ⟨_, _, t, false, rfl, rfl, rfl, rfl, ?_⟩
    rw [if_neg h0]
    exact h.ka (KAl.rf s)
theorem p_hold (h : INV n s t) (x : Int32) : Pair g_SF_hold g_Mo_hold 26 26 X [.int x] (n + 1) s t := by
  obtain ⟨q, lv, w, m, hT, hG, hM, hS, hO, hP, hW, hL⟩ := id h
  have h5 : xNc q ≤ 5 := hT.C.2.1
  have h6 : xNd q ≤ 6 := hT.C.2.2.2.1
  intro fm
  refine ab_T_mono (t_SF_hold 24 fm X s t x) ?_
  rintro v _ ⟨rfl, rfl⟩
  refine ⟨_, _, t, false, rfl, rfl, fun fm => ?_⟩
  refine ab_T_mono (t_Mo_hold 25 fm X _ t x) ?_
  rintro v _ ⟨rfl, rfl⟩
  refine ⟨_, _, t, false, rfl, rfl, rfl, rfl, ?_⟩
  by_cases hx : inR 3 x
  · rw [if_pos hx, if_pos hx]
    have hk := inR_lt hx
    generalize x.toNatClampNeg = k at hk
    obtain ⟨a, a1, a2, a3, a4⟩ := id hS
    obtain ⟨b1, b2, b3⟩ := sl_or a a1 k hk
    have o : ∀ c, c ≠ 38 → c ≠ 40 → c ≠ 127 → c ≠ 128 → slR' (slF s k) k c = s c := fun c q1 q2 q3 q4 => by
      unfold slR'
      rw [ab_ro_o q4, ab_up_o q3]
      unfold slF
      rw [ab_up_o q1, ab_ro_o q2]
    have o38 : ∀ j, j ≠ 2 → slR' (slF s k) k 38 j = s 38 j := fun j hj => by
      unfold slR'
      rw [ab_ro_o (by decide), ab_up_o (by decide)]
      unfold slF
      rw [ab_up_n hj, ab_ro_o (by decide)]
    have e382 : slR' (slF s k) k 38 2 = nI (a ||| 2 ^ k) := by
      rw [← b1, ← a2]; rfl
    have e40 : slR' (slF s k) k 40 = va_cpy (s 11) (s 40) 0 (40 * k) 40 := rfl
    have e127 : slR' (slF s k) k 127 = fun j => if j = k then 1 else s 127 j := by
      unfold slR'
      rw [ab_ro_o (by decide), ab_up_c]
      rfl
    have e128 : slR' (slF s k) k 128 = fillR (s 128) (40 * k) 40 (s 114) := rfl
    generalize slR' (slF s k) k = s2 at *
    have e17 := o 17 (by decide) (by decide) (by decide) (by decide)
    have e81 := o 81 (by decide) (by decide) (by decide) (by decide)
    refine ⟨q, lv, w, m, hT.of (fun c k h1 h2 h3 => by rw [o c (by omega) (by omega) (by omega) (by omega)]) ⟨rfl, rfl⟩ (fun c h1 h2 => o c (by omega) (by omega) (by omega) (by omega)) (by rw [e81]), ?_, hM.of e17 (o38 3 (by decide)) (o38 4 (by decide)) (by rw [e81]) (o 39 (by decide) (by decide) (by decide) (by decide)) (o 119 (by decide) (by decide) (by decide) (by decide)), ⟨a ||| 2 ^ k, b2, e382, fun i hi => ?_, fun i hi hb => ?_⟩, hO.of (by rw [o 41 (by decide) (by decide) (by decide) (by decide)]) (o 42 (by decide) (by decide) (by decide) (by decide)) (o 43 (by decide) (by decide) (by decide) (by decide)) (o 44 (by decide) (by decide) (by decide) (by decide)) (by rw [e81]) (o 124 (by decide) (by decide) (by decide) (by decide)) (o 125 (by decide) (by decide) (by decide) (by decide)) (o 126 (by decide) (by decide) (by decide) (by decide)), hP.of (by rw [o 1 (by decide) (by decide) (by decide) (by decide)]) (by rw [e81]) (o 2 (by decide) (by decide) (by decide) (by decide)) (o 82 (by decide) (by decide) (by decide) (by decide)), hW.of (by rw [o 0 (by decide) (by decide) (by decide) (by decide)]) (by rw [e81]) (by rw [o 8 (by decide) (by decide) (by decide) (by decide)]) ⟨rfl, rfl⟩, hL.of (by omega) (by rw [o 10 (by decide) (by decide) (by decide) (by decide)]) (by rw [o 45 (by decide) (by decide) (by decide) (by decide)]) ⟨o 11 (by decide) (by decide) (by decide) (by decide), o 16 (by decide) (by decide) (by decide) (by decide), o 19 (by decide) (by decide) (by decide) (by decide), o 20 (by decide) (by decide) (by decide) (by decide)⟩ (o 47 (by decide) (by decide) (by decide) (by decide)) rfl⟩
    · rw [e17, o 11 (by decide) (by decide) (by decide) (by decide), o 114 (by decide) (by decide) (by decide) (by decide)]
      exact hG
    · rw [e127, b3 i hi]
      show (if i = k then (1 : Int32) else s 127 i) = _
      by_cases hik : i = k
      · rw [if_pos hik, decide_eq_true hik, Bool.or_true, if_pos rfl]
      · rw [if_neg hik, decide_eq_false hik, Bool.or_false]
        exact a3 i hi
    · rw [e17, e40, e128]
      by_cases hik : i = k
      · subst hik
        refine GR.cg h5 h6 rfl (fun j hj => ?_) (fun j hj => ?_) hG
        · unfold va_cpy
          rw [if_pos (by omega)]
          congr 1; omega
        · unfold fillR
          rw [if_pos (by omega)]
          congr 1; omega
      · rw [b3 i hi, decide_eq_false hik, Bool.or_false] at hb
        refine GR.cg h5 h6 rfl (fun j hj => ?_) (fun j hj => ?_) (a4 i hi hb)
        · unfold va_cpy
          rw [if_neg (by omega)]
        · unfold fillR
          rw [if_neg (by omega)]
  · rw [if_neg hx, if_neg hx]
    exact h.ka (KAl.rf s)
theorem p_restore (hn : n ≤ 511) (h : INV n s t) (x : Int32) : Pair g_SF_restore g_Mo_restore 26 26 X [.int x] (n + 1) s t := by
  obtain ⟨q, lv, w, m, hT, hG, hM, hS, hO, hP, hW, hL⟩ := id h
  have h5 : xNc q ≤ 5 := hT.C.2.1
  have h6 : xNd q ≤ 6 := hT.C.2.2.2.1
  obtain ⟨a, a1, a2, a3, a4⟩ := id hS
  have hiff : ∀ k, k < 3 → (hbF (s 38 2) (nI k) = true ↔ ¬ s 127 k = 0) := fun k hk => by
    rw [a2, sl_hb a a1 k hk, a3 k hk]
    cases a.testBit k <;> decide
  have hcx : (inR 3 x ∧ hbF (s 38 2) x = true) ↔ (inR 3 x ∧ ¬ s 127 x.toNatClampNeg = 0) := by
    constructor
    · rintro ⟨p, p2⟩
      refine ⟨p, ?_⟩
      obtain ⟨e, he, rfl⟩ := inR_nat p
      rw [nI_c (by omega)]
      exact (hiff e he).mp p2
    · rintro ⟨p, p2⟩
      refine ⟨p, ?_⟩
      obtain ⟨e, he, rfl⟩ := inR_nat p
      rw [nI_c (by omega)] at p2
      exact (hiff e he).mpr p2
  intro fm
  refine ab_T_mono (t_SF_restore 24 fm X s t x) ?_
  rintro v _ ⟨rfl, rfl⟩
  refine ⟨_, _, t, false, rfl, rfl, fun fm => ?_⟩
  by_cases hx : inR 3 x ∧ hbF (s 38 2) x = true
  · rw [if_pos hx]
    have e127 : slT s x.toNatClampNeg 127 = s 127 := by
      unfold slT upSt
      rw [ab_up_o (by decide), ab_up_o (by decide), ab_ro_o (by decide)]
    refine ab_T_mono (t_Mo_restore 25 fm X (slT s x.toNatClampNeg) t x) ?_
    rintro v _ ⟨rfl, rfl⟩
    rw [e127]
    refine ⟨_, _, t, false, rfl, rfl, by rw [bI_c hcx], rfl, ?_⟩
    rw [if_pos (hcx.mp hx)]
    have hk := inR_lt hx.1
    have hb : a.testBit x.toNatClampNeg = true := by
      have := (hcx.mp hx).2
      rw [a3 _ hk] at this
      revert this
      cases a.testBit x.toNatClampNeg
      · intro z; exact absurd rfl z
      · intro _; rfl
    generalize x.toNatClampNeg = k at hk hb
    have o : ∀ c, c ≠ 10 → c ≠ 11 → c ≠ 38 → c ≠ 81 → c ≠ 114 → slG (slT s k) k c = s c := fun c q1 q2 q3 q4 q5 => by
      unfold slG
      rw [ab_up_o q4, ab_ro_o q5]
      unfold slT upSt
      rw [ab_up_o q3, ab_up_o q1, ab_ro_o q2]
    have o38 : ∀ j, j ≠ 4 → slG (slT s k) k 38 j = s 38 j := fun j hj => by
      unfold slG
      rw [ab_up_o (by decide), ab_ro_o (by decide)]
      unfold slT upSt
      rw [ab_up_n hj, ab_up_o (by decide), ab_ro_o (by decide)]
    have o81 : ∀ j, j ≠ 56 → slG (slT s k) k 81 j = s 81 j := fun j hj => by
      unfold slG
      rw [ab_up_n hj, ab_ro_o (by decide)]
      unfold slT upSt
      rw [ab_up_o (by decide), ab_up_o (by decide), ab_ro_o (by decide)]
    have e10 : slG (slT s k) k 10 1 = s 10 1 + nI 1 := rfl
    have e11 : slG (slT s k) k 11 = va_cpy (s 40) (s 11) (40 * k) 0 40 := rfl
    have e114 : slG (slT s k) k 114 = fillR (s 114) 0 40 (fun j => s 128 (40 * k + j)) := rfl
    have e384 : slG (slT s k) k 38 4 = nI 0 := rfl
    have e8156 : slG (slT s k) k 81 56 = nI 0 := rfl
    generalize slG (slT s k) k = s2 at *
    have e17 := o 17 (by decide) (by decide) (by decide) (by decide) (by decide)
    refine ⟨q, lv, w, 0, hT.of (fun c k h1 h2 h3 => by rw [o c (by omega) (by omega) (by omega) (by omega) (by omega)]) ⟨rfl, rfl⟩ (fun c h1 h2 => o c (by omega) (by omega) (by omega) (by omega) (by omega)) (o81 18 (by decide)), ?_, ⟨(o38 3 (by decide)).trans hM.1, hM.2.1, e384, by omega, e8156, fun i hi => absurd hi (Nat.not_lt_zero i)⟩, hS.of e17 (o38 2 (by decide)) (o 127 (by decide) (by decide) (by decide) (by decide) (by decide)) (o 40 (by decide) (by decide) (by decide) (by decide) (by decide)) (o 128 (by decide) (by decide) (by decide) (by decide) (by decide)), hO.of (by rw [o 41 (by decide) (by decide) (by decide) (by decide) (by decide)]) (o 42 (by decide) (by decide) (by decide) (by decide) (by decide)) (o 43 (by decide) (by decide) (by decide) (by decide) (by decide)) (o 44 (by decide) (by decide) (by decide) (by decide) (by decide)) (o81 63 (by decide)) (o 124 (by decide) (by decide) (by decide) (by decide) (by decide)) (o 125 (by decide) (by decide) (by decide) (by decide) (by decide)) (o 126 (by decide) (by decide) (by decide) (by decide) (by decide)), hP.of (by rw [o 1 (by decide) (by decide) (by decide) (by decide) (by decide)]) (o81 2 (by decide)) (o 2 (by decide) (by decide) (by decide) (by decide) (by decide)) (o 82 (by decide) (by decide) (by decide) (by decide) (by decide)), hW.of (by rw [o 0 (by decide) (by decide) (by decide) (by decide) (by decide)]) (o81 17 (by decide)) (by rw [o 8 (by decide) (by decide) (by decide) (by decide) (by decide)]) ⟨rfl, rfl⟩, IL.up hn (k := 1) (by decide) (by decide) e10 (by rw [o 45 (by decide) (by decide) (by decide) (by decide) (by decide)]) hL⟩
    rw [e17, e11, e114]
    refine GR.cg h5 h6 rfl (fun j hj => ?_) (fun j hj => ?_) (a4 k hk hb)
    · unfold va_cpy
      rw [if_pos (by omega), Nat.sub_zero]
    · unfold fillR
      rw [if_pos (by omega), Nat.sub_zero]
  · rw [if_neg hx]
    refine ab_T_mono (t_Mo_restore 25 fm X s t x) ?_
    rintro v _ ⟨rfl, rfl⟩
    refine ⟨_, _, t, false, rfl, rfl, by rw [bI_c hcx], rfl, ?_⟩
    rw [if_neg (fun z => hx (hcx.mpr z))]
    exact h.ka (KAl.rf s)
end

