/-! pairs of calls that do something -/
theorem inR_lt {n : Nat} {x : Int32} (h : inR n x) : x.toNatClampNeg < n := by
  unfold inR at h
  show x.toInt.toNat < n
  omega
section
variable {n : Nat} (X : Nat × (Nat → Int32)) {s : Nat → Nat → Int32} {t : Nat → Nat → Int64}
theorem p_seal (hn : n ≤ 511) (h : INV n s t) (x y : Int32) : Pair g_SF_seal g_Mo_seal 26 26 X [.int x, .int y] (n + 1) s t := by
  obtain ⟨q, lv, w, m, hT, hG, hM, hS, hO, hP, hW, hL⟩ := id h
  have hQ := hT.Q hG
  have hC : CI s (xNc q) (xNd q) (xNt q) (xLw q 0) (xLw q 1) (xLw q 2) (xLw q 3) := ⟨hT.C, hQ.1⟩
  intro fm
  refine ab_T_mono (t_SF_seal 21 fm X s t hC hM.1 hM.2.1 hM.2.2.1 hM.2.2.2.1 x y) ?_
  rintro v _ ⟨rfl, s1, rfl, d1, d0⟩
  refine ⟨_, s1, t, false, rfl, rfl, fun fm => ?_⟩
  have e : ∀ c, 81 ≤ c → s1 c = s c := fun c hc => funext fun k => by
    by_cases hp : inR (xNc q) x ∧ inR (xNd q) y ∧ canB s (xLw q 0) (xNd q) x.toNatClampNeg y.toNatClampNeg = true
    · exact (d1 hp).2.2.2.2.2 c k (scr1_hi (by omega) k) (by omega) (by omega) (by omega) (by omega) (by omega)
    · exact d0 hp c k (scr1_hi (by omega) k) (by omega)
  have hV : vR s (xNc q) (xNd q) (s1 114) = s := by rw [e 114 (by decide)]; exact hG.V
  have k := t_Mo_seal 22 fm X s1 s t (hT.R' e) (u := m) (by rw [e 81 (by decide)]; exact hM.2.2.2.2.1) hM.2.2.2.1 x y
  rw [hV] at k
  refine ab_T_mono k ?_
  rintro v _ ⟨rfl, s2, rfl, f1, f0⟩
  refine ⟨_, s2, t, false, rfl, rfl, rfl, rfl, ?_⟩
  by_cases hp : inR (xNc q) x ∧ inR (xNd q) y ∧ canB s (xLw q 0) (xNd q) x.toNatClampNeg y.toNatClampNeg = true
  · exact INV.rec hn hT hG hM hS hO hP hW hL (d1 hp) (f1 hp) (Q_seal hC.1.2.1 hC.1.2.2.2.1 (inR_lt hp.1) (inR_lt hp.2.1) hp.2.2 hQ) (by decide) (by decide)
  · exact h.ka ((d0 hp).toC.A.tr (f0 hp).A)
theorem p_forge (hn : n ≤ 511) (h : INV n s t) (y : Int32) : Pair g_SF_forge g_Mo_forge 26 26 X [.int y] (n + 1) s t := by
  obtain ⟨q, lv, w, m, hT, hG, hM, hS, hO, hP, hW, hL⟩ := id h
  have hQ := hT.Q hG
  have hC : CI s (xNc q) (xNd q) (xNt q) (xLw q 0) (xLw q 1) (xLw q 2) (xLw q 3) := ⟨hT.C, hQ.1⟩
  intro fm
  refine ab_T_mono (t_SF_forge 23 fm X s t hC hM.1 hM.2.1 hM.2.2.1 hM.2.2.2.1 y) ?_
  rintro v _ ⟨rfl, s1, rfl, d1, d0⟩
  refine ⟨_, s1, t, false, rfl, rfl, fun fm => ?_⟩
  have e : ∀ c, 81 ≤ c → s1 c = s c := fun c hc => funext fun k => by
    by_cases hp : inR (xNd q) y ∧ openB s y.toNatClampNeg = true
    · exact (d1 hp).2.2.2.2.2 c k (scr1_hi (by omega) k) (by omega) (by omega) (by omega) (by omega) (by omega)
    · exact d0 hp c k (scr1_hi (by omega) k) (by omega)
  have hV : vR s (xNc q) (xNd q) (s1 114) = s := by rw [e 114 (by decide)]; exact hG.V
  have k := t_Mo_forge 23 fm X s1 s t (hT.R' e) (u := m) (by rw [e 81 (by decide)]; exact hM.2.2.2.2.1) hM.2.2.2.1 y
  rw [hV] at k
  refine ab_T_mono k ?_
  rintro v _ ⟨rfl, s2, rfl, f1, f0⟩
  refine ⟨_, s2, t, false, rfl, rfl, rfl, rfl, ?_⟩
  by_cases hp : inR (xNd q) y ∧ openB s y.toNatClampNeg = true
  · exact INV.rec hn hT hG hM hS hO hP hW hL (d1 hp) (f1 hp) (Q_mark hC.1.2.1 hC.1.2.2.2.1 (inR_lt hp.1) (by decide) (fun f hf => hQ.2.2.2 _ f (inR_lt hp.1) hf) hQ) (by decide) (by decide)
  · exact h.ka ((d0 hp).toC.A.tr (f0 hp).A)
theorem p_burn (hn : n ≤ 511) (h : INV n s t) (y : Int32) : Pair g_SF_burn g_Mo_burn 26 26 X [.int y] (n + 1) s t := by
  obtain ⟨q, lv, w, m, hT, hG, hM, hS, hO, hP, hW, hL⟩ := id h
  have hQ := hT.Q hG
  have hC : CI s (xNc q) (xNd q) (xNt q) (xLw q 0) (xLw q 1) (xLw q 2) (xLw q 3) := ⟨hT.C, hQ.1⟩
  intro fm
  refine ab_T_mono (t_SF_burn 23 fm X s t hC hM.1 hM.2.1 hM.2.2.1 hM.2.2.2.1 y) ?_
  rintro v _ ⟨rfl, s1, rfl, d1, d0⟩
  refine ⟨_, s1, t, false, rfl, rfl, fun fm => ?_⟩
  have e : ∀ c, 81 ≤ c → s1 c = s c := fun c hc => funext fun k => by
    by_cases hp : inR (xNd q) y ∧ openB s y.toNatClampNeg = false
    · exact (d1 hp).2.2.2.2.2 c k (scr1_hi (by omega) k) (by omega) (by omega) (by omega) (by omega) (by omega)
    · exact d0 hp c k (scr1_hi (by omega) k) (by omega)
  have hV : vR s (xNc q) (xNd q) (s1 114) = s := by rw [e 114 (by decide)]; exact hG.V
  have k := t_Mo_burn 23 fm X s1 s t (hT.R' e) (u := m) (by rw [e 81 (by decide)]; exact hM.2.2.2.2.1) hM.2.2.2.1 y
  rw [hV] at k
  refine ab_T_mono k ?_
  rintro v _ ⟨rfl, s2, rfl, f1, f0⟩
  refine ⟨_, s2, t, false, rfl, rfl, rfl, rfl, ?_⟩
  by_cases hp : inR (xNd q) y ∧ openB s y.toNatClampNeg = false
  · exact INV.rec hn hT hG hM hS hO hP hW hL (d1 hp) (f1 hp) (Q_mark hC.1.2.1 hC.1.2.2.2.1 (inR_lt hp.1) (by decide) (fun _ _ => by decide) hQ) (by decide) (by decide)
  · exact h.ka ((d0 hp).toC.A.tr (f0 hp).A)
theorem p_years (hn : n ≤ 511) (h : INV n s t) (x : Int32) : Pair g_SF_years g_Mo_years 26 26 X [.int x] (n + 1) s t := by
  obtain ⟨q, lv, w, m, hT, hG, hM, hS, hO, hP, hW, hL⟩ := id h
  have hQ := hT.Q hG
  have hC : CI s (xNc q) (xNd q) (xNt q) (xLw q 0) (xLw q 1) (xLw q 2) (xLw q 3) := ⟨hT.C, hQ.1⟩
  have h5 : xNc q ≤ 5 := hC.1.2.1
  have h6 : xNd q ≤ 6 := hC.1.2.2.2.1
  intro fm
  refine ab_T_mono (t_SF_years 20 fm X s t hC hM.1 hM.2.1 hM.2.2.1 hM.2.2.2.1 x) ?_
  rintro v _ ⟨rfl, s1, rfl, d1, d0⟩
  refine ⟨_, s1, t, false, rfl, rfl, fun fm => ?_⟩
  have e : ∀ c, 81 ≤ c → s1 c = s c := fun c hc => funext fun k => by
    by_cases hp : inR 41 x ∧ 0 < x.toInt
    · exact (d1 hp).2.2.2.2.2 c k (scr1_hi (by omega) k) (by omega) (by omega) (by omega) (by omega) (by omega)
    · exact d0 hp c k (scr1_hi (by omega) k) (by omega)
  have hV : vR s (xNc q) (xNd q) (s1 114) = s := by rw [e 114 (by decide)]; exact hG.V
  have k := t_Mo_years 21 fm X s1 s t (hT.R' e) (by rw [hV]; exact hQ) (u := m) (by rw [e 81 (by decide)]; exact hM.2.2.2.2.1) hM.2.2.2.1 x
  rw [hV] at k
  refine ab_T_mono k ?_
  rintro v _ ⟨rfl, s2, rfl, f1, f0⟩
  refine ⟨_, s2, t, false, rfl, rfl, rfl, rfl, ?_⟩
  by_cases hp : inR 41 x ∧ 0 < x.toInt
  · have b1 := inR_lt hp.1
    have b0 : 0 < x.toNatClampNeg := by
      show 0 < x.toInt.toNat
      have := hp.2
      omega
    have b2 : x.toNatClampNeg * (3 * xNc q + 3 * xNd q + 1) ≤ 40 * 34 := Nat.mul_le_mul (by omega) (by omega)
    have b3 : 0 < x.toNatClampNeg * (3 * xNc q + 3 * xNd q + 1) := Nat.mul_pos b0 (by omega)
    exact INV.rec hn hT hG hM hS hO hP hW hL (d1 hp) (f1 hp) ⟨SI_N h5 h6 hQ.1 _, LI_rowN s h5 h6 hQ.2 _⟩ b3 (by omega)
  · exact h.ka ((d0 hp).toC.A.tr (f0 hp).A)
end

