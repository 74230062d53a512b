/-! an index that is a number -/
theorem LL1 : (1 : Int32) = nI 1 := rfl
theorem LL2 : (2 : Int32) = nI 2 := rfl
theorem LL3 : (3 : Int32) = nI 3 := rfl
theorem LL4 : (4 : Int32) = nI 4 := rfl
theorem LL5 : (5 : Int32) = nI 5 := rfl
theorem LL6 : (6 : Int32) = nI 6 := rfl
theorem LL7 : (7 : Int32) = nI 7 := rfl
theorem LL8 : (8 : Int32) = nI 8 := rfl
theorem LL10 : (10 : Int32) = nI 10 := rfl
theorem LL15 : (15 : Int32) = nI 15 := rfl
theorem LL18 : (18 : Int32) = nI 18 := rfl
theorem LL20 : (20 : Int32) = nI 20 := rfl
theorem LL21 : (21 : Int32) = nI 21 := rfl
theorem LL22 : (22 : Int32) = nI 22 := rfl
theorem LL23 : (23 : Int32) = nI 23 := rfl
theorem LL24 : (24 : Int32) = nI 24 := rfl
theorem LL32 : (32 : Int32) = nI 32 := rfl
theorem LL39 : (39 : Int32) = nI 39 := rfl
theorem LL40 : (40 : Int32) = nI 40 := rfl
theorem LL130 : (130 : Int32) = nI 130 := rfl
theorem LL420 : (420 : Int32) = nI 420 := rfl
section
variable {M : ab_M} {d : Nat} {b : Nat × Nat} {Po : Option Value → ab_H → Prop} {i nx : Nat} {L : ab_L} {sh : List (Nat × Nat)} {sg : Nat → Nat → Int32} {ta : Nat → Nat → Int64} {ro : (Nat → Nat → Value) × Nat × (Nat → Int32)} {a n k : Nat} {j v : Int32} {w : Int64} {r : List Value}
theorem ab_ia (ok : ab_ok M 0 (ab_cd M)) (hA : (ab_cd M)[i]? = some (.inl (aIA nx))) (hs : sh[a]? = some (0, n)) (hj : j = nI k) (hk : k < n) (hn : n ≤ 100000) (k1 : ab_Z M d b Po nx (ab_mk M nx L) (.int (sg a k) :: r) (sh, sg, ta, ro)) : ab_Z M d b Po i L (.int j :: .ref a :: r) (sh, sg, ta, ro) := by
  subst hj
  obtain ⟨q1, q2, q3⟩ := ro
  refine ab_ck ok hA (C := 0 ≤ (nI k).toInt ∧ (nI k).toInt < (n : Int)) (i1 := nx) (L1 := L) (st1 := .int (sg a (nI k).toNatClampNeg) :: r) (h1 := (sh, sg, ta, q1, q2, q3)) ?_ ?_ ?_
  · simp only [aIA, hs]
  · rw [nI_t (by omega)]; omega
  · rw [nI_c (by omega)]; exact k1
theorem ab_ba1 (ok : ab_ok M 0 (ab_cd M)) (hA : (ab_cd M)[i]? = some (.inl (aBA nx))) (hs : sh[a]? = some (1, n)) (hj : j = nI k) (hk : k < n) (hn : n ≤ 100000) (k1 : ab_Z M d b Po nx (ab_mk M nx L) (.int (sg a k) :: r) (sh, sg, ta, ro)) : ab_Z M d b Po i L (.int j :: .ref a :: r) (sh, sg, ta, ro) := by
  subst hj
  obtain ⟨q1, q2, q3⟩ := ro
  refine ab_ck ok hA (C := 0 ≤ (nI k).toInt ∧ (nI k).toInt < (n : Int)) (i1 := nx) (L1 := L) (st1 := .int (sg a (nI k).toNatClampNeg) :: r) (h1 := (sh, sg, ta, q1, q2, q3)) ?_ ?_ ?_
  · simp only [aBA, hs]
  · rw [nI_t (by omega)]; omega
  · rw [nI_c (by omega)]; exact k1
theorem ab_ba2 (ok : ab_ok M 0 (ab_cd M)) (hA : (ab_cd M)[i]? = some (.inl (aBA nx))) (hs : sh[a]? = some (2, n)) (hj : j = nI k) (hk : k < n) (hn : n ≤ 100000) (k1 : ab_Z M d b Po nx (ab_mk M nx L) (.int (sg a k) :: r) (sh, sg, ta, ro)) : ab_Z M d b Po i L (.int j :: .ref a :: r) (sh, sg, ta, ro) := by
  subst hj
  obtain ⟨q1, q2, q3⟩ := ro
  refine ab_ck ok hA (C := 0 ≤ (nI k).toInt ∧ (nI k).toInt < (n : Int)) (i1 := nx) (L1 := L) (st1 := .int (sg a (nI k).toNatClampNeg) :: r) (h1 := (sh, sg, ta, q1, q2, q3)) ?_ ?_ ?_
  · simp only [aBA, hs]
  · rw [nI_t (by omega)]; omega
  · rw [nI_c (by omega)]; exact k1
theorem ab_la (ok : ab_ok M 0 (ab_cd M)) (hA : (ab_cd M)[i]? = some (.inl (aLA nx))) (hs : sh[a]? = some (3, n)) (hj : j = nI k) (hk : k < n) (hn : n ≤ 100000) (k1 : ab_Z M d b Po nx (ab_mk M nx L) (.long (ta a k) :: r) (sh, sg, ta, ro)) : ab_Z M d b Po i L (.int j :: .ref a :: r) (sh, sg, ta, ro) := by
  subst hj
  obtain ⟨q1, q2, q3⟩ := ro
  refine ab_ck ok hA (C := 0 ≤ (nI k).toInt ∧ (nI k).toInt < (n : Int)) (i1 := nx) (L1 := L) (st1 := .long (ta a (nI k).toNatClampNeg) :: r) (h1 := (sh, sg, ta, q1, q2, q3)) ?_ ?_ ?_
  · simp only [aLA, hs]
  · rw [nI_t (by omega)]; omega
  · rw [nI_c (by omega)]; exact k1
theorem ab_is (ok : ab_ok M 0 (ab_cd M)) (hA : (ab_cd M)[i]? = some (.inl (aIS nx))) (hs : sh[a]? = some (0, n)) (hj : j = nI k) (hk : k < n) (hn : n ≤ 100000) (k1 : ab_Z M d b Po nx (ab_mk M nx L) r (sh, ab_up sg a k v, ta, ro)) : ab_Z M d b Po i L (.int v :: .int j :: .ref a :: r) (sh, sg, ta, ro) := by
  subst hj
  obtain ⟨q1, q2, q3⟩ := ro
  refine ab_ck ok hA (C := 0 ≤ (nI k).toInt ∧ (nI k).toInt < (n : Int)) (i1 := nx) (L1 := L) (st1 := r) (h1 := (sh, ab_up sg a (nI k).toNatClampNeg v, ta, q1, q2, q3)) ?_ ?_ ?_
  · simp only [aIS, hs]
  · rw [nI_t (by omega)]; omega
  · rw [nI_c (by omega)]; exact k1
theorem ab_bs1 (ok : ab_ok M 0 (ab_cd M)) (hA : (ab_cd M)[i]? = some (.inl (aBS nx))) (hs : sh[a]? = some (1, n)) (hj : j = nI k) (hk : k < n) (hn : n ≤ 100000) (k1 : ab_Z M d b Po nx (ab_mk M nx L) r (sh, ab_up sg a k v.toInt8.toInt32, ta, ro)) : ab_Z M d b Po i L (.int v :: .int j :: .ref a :: r) (sh, sg, ta, ro) := by
  subst hj
  obtain ⟨q1, q2, q3⟩ := ro
  refine ab_ck ok hA (C := 0 ≤ (nI k).toInt ∧ (nI k).toInt < (n : Int)) (i1 := nx) (L1 := L) (st1 := r) (h1 := (sh, ab_up sg a (nI k).toNatClampNeg v.toInt8.toInt32, ta, q1, q2, q3)) ?_ ?_ ?_
  · simp only [aBS, hs]
  · rw [nI_t (by omega)]; omega
  · rw [nI_c (by omega)]; exact k1
theorem ab_bs2 (ok : ab_ok M 0 (ab_cd M)) (hA : (ab_cd M)[i]? = some (.inl (aBS nx))) (hs : sh[a]? = some (2, n)) (hj : j = nI k) (hk : k < n) (hn : n ≤ 100000) (k1 : ab_Z M d b Po nx (ab_mk M nx L) r (sh, ab_up sg a k (v &&& 1), ta, ro)) : ab_Z M d b Po i L (.int v :: .int j :: .ref a :: r) (sh, sg, ta, ro) := by
  subst hj
  obtain ⟨q1, q2, q3⟩ := ro
  refine ab_ck ok hA (C := 0 ≤ (nI k).toInt ∧ (nI k).toInt < (n : Int)) (i1 := nx) (L1 := L) (st1 := r) (h1 := (sh, ab_up sg a (nI k).toNatClampNeg (v &&& 1), ta, q1, q2, q3)) ?_ ?_ ?_
  · simp only [aBS, hs]
  · rw [nI_t (by omega)]; omega
  · rw [nI_c (by omega)]; exact k1
theorem ab_ls (ok : ab_ok M 0 (ab_cd M)) (hA : (ab_cd M)[i]? = some (.inl (aLS nx))) (hs : sh[a]? = some (3, n)) (hj : j = nI k) (hk : k < n) (hn : n ≤ 100000) (k1 : ab_Z M d b Po nx (ab_mk M nx L) r (sh, sg, ab_up ta a k w, ro)) : ab_Z M d b Po i L (.long w :: .int j :: .ref a :: r) (sh, sg, ta, ro) := by
  subst hj
  obtain ⟨q1, q2, q3⟩ := ro
  refine ab_ck ok hA (C := 0 ≤ (nI k).toInt ∧ (nI k).toInt < (n : Int)) (i1 := nx) (L1 := L) (st1 := r) (h1 := (sh, sg, ab_up ta a (nI k).toNatClampNeg w, q1, q2, q3)) ?_ ?_ ?_
  · simp only [aLS, hs]
  · rw [nI_t (by omega)]; omega
  · rw [nI_c (by omega)]; exact k1
end

