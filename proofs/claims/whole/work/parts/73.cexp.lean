/-! the class's reader: expressions -/
def LwC (s : Nat → Nat → Int32) (p : Nat) (Q : List Ins) : Prop := s p 3 = nI Q.length ∧ ∀ j q, Q[j]? = some q → s (p + 1) j = encI q
def LwZ (s : Nat → Nat → Int32) (p : Nat) : Prop := ∃ z, z ≤ 400 ∧ s p 3 = nI z
def KS (p : Nat) (s s' : Nat → Nat → Int32) : Prop := ∀ c k, ¬ (c = 8 ∧ (k = 1 ∨ k = 2 ∨ k = 3)) → c ≠ p + 1 → ¬ (c = p ∧ k = 3) → s' c k = s c k
theorem KS.rf (p : Nat) (s : Nat → Nat → Int32) : KS p s s := fun _ _ _ _ _ => rfl
theorem KS.tr {p : Nat} {a b c : Nat → Nat → Int32} (h : KS p a b) (g : KS p b c) : KS p a c := fun x k q r u => (g x k q r u).trans (h x k q r u)
theorem KA.s {p : Nat} {a b : Nat → Nat → Int32} (h : KA a b) : KS p a b := fun x k q _ _ => h x k q
theorem KS.r {p : Nat} {a b : Nat → Nat → Int32} (hp : 65 ≤ p ∧ p ≤ 77) (h : KS p a b) : KR a b := fun x k q r => h x k (fun z => q z.1) (by omega) (by omega)
def adL (s : Nat → Nat → Int32) (p z : Nat) (e : Int32) : Nat → Nat → Int32 := if z < 400 then ab_up (ab_up s (p + 1) z e) p 3 (nI (z + 1)) else s
theorem adL_k (s : Nat → Nat → Int32) (p z : Nat) (e : Int32) : KS p s (adL s p z e) := by
  intro c k h1 h2 h3
  unfold adL
  split
  · by_cases hc : c = p
    · subst hc
      rw [ab_up_n (fun q => h3 ⟨rfl, q⟩), ab_up_o h2]
    · rw [ab_up_o hc, ab_up_o h2]
  · rfl
theorem adL_z {s : Nat → Nat → Int32} {p z : Nat} {e : Int32} (hz : z ≤ 400) (h : s p 3 = nI z) : LwZ (adL s p z e) p := by
  unfold adL
  split
  · exact ⟨z + 1, by omega, ab_up_s ..⟩
  · exact ⟨z, hz, h⟩
theorem adL_c {s : Nat → Nat → Int32} {p : Nat} {Q : List Ins} {q : Ins} (hz : Q.length < 400) (h : LwC s p Q) : LwC (adL s p Q.length (encI q)) p (Q ++ [q]) := by
  unfold adL
  rw [if_pos hz]
  refine ⟨by rw [ab_up_s, List.length_append]; rfl, fun j x hj => ?_⟩
  rw [ab_up_o (by omega)]
  by_cases hjl : j < Q.length
  · rw [List.getElem?_append_left hjl] at hj
    rw [ab_up_n (by omega)]
    exact h.2 j x hj
  · rw [List.getElem?_append_right (by omega)] at hj
    have h0 : j - Q.length = 0 := by
      rcases Nat.eq_zero_or_pos (j - Q.length) with h | h
      · exact h
      · rw [List.getElem?_eq_none (by rw [List.length_singleton]; omega)] at hj; cases hj
    rw [h0] at hj
    have hx : q = x := by simpa using hj
    rw [show j = Q.length by omega, ab_up_s, hx]
theorem LwC.of {s s' : Nat → Nat → Int32} {p : Nat} {Q : List Ins} (h1 : s' p 3 = s p 3) (h2 : s' (p + 1) = s (p + 1)) (h : LwC s p Q) : LwC s' p Q := by
  unfold LwC
  rw [h1, h2]
  exact h
theorem KA.c {p : Nat} {a b : Nat → Nat → Int32} {Q : List Ins} (hp : 65 ≤ p) (h : KA a b) (hL : LwC a p Q) : LwC b p Q := hL.of (h p 3 (by omega)) (funext fun k => h (p + 1) k (by omega))
theorem KA.z {p : Nat} {a b : Nat → Nat → Int32} (hp : 65 ≤ p) (h : KA a b) (hL : LwZ a p) : LwZ b p := by
  obtain ⟨z, h1, h2⟩ := hL
  exact ⟨z, h1, (h p 3 (by omega)).trans h2⟩
abbrev PLw (fm : Value) (X : Nat × (Nat → Int32)) (s : Nat → Nat → Int32) (t : Nat → Nat → Int64) (K : Nat → Nat) (p : Nat) (Q : List Ins) (F : Rs (Nat × List Ins)) : Option Value → ab_H → Prop := fun r h => r = none ∧ ∃ s', h = HA fm X s' t ∧ KS p s s' ∧ Rd s' K (mpT Prod.fst F) ∧ LwZ s' p ∧ ∀ q, F = .inl q → LwC s' p (Q ++ q.2)
/-- a contract of an expression's reader -/
def CtL (g : ab_Sg) (p D : Nat) (fm : Value) (X : Nat × (Nat → Int32)) (t : Nat → Nat → Int64) (K P v : Nat → Nat) (nm : Nat → List Nat) (dep : Int32) (u : Nat → Rs (Nat × List Ins)) : Prop := ∀ (s : Nat → Nat → Int32) (R : Rs Nat) (Q : List Ins), TC s t K P v nm → Rd s K R → (∀ n, R = .inl n → LwC s p Q ∧ Q.length ≤ n) → LwZ s p → ab_T g D (0, 0) [.ref 8, .ref p, .int dep] (HA fm X s t) (PLw fm X s t K p Q (bnd R u))
theorem oM_i {k : Nat} (hk : k < 300) : oM k ≠ 0 ↔ (nI k = 42 ∨ nI k = 47) := by
  have e1 : nI k = 42 ↔ k = 42 := nI_eq (b := 42) (by omega) (by decide)
  have e2 : nI k = 47 ↔ k = 47 := nI_eq (b := 47) (by omega) (by decide)
  rw [e1, e2]
  unfold oM
  split
  · omega
  · split <;> omega
theorem oA_i {k : Nat} (hk : k < 300) : oA k ≠ 0 ↔ (nI k = 43 ∨ nI k = 45) := by
  have e1 : nI k = 43 ↔ k = 43 := nI_eq (b := 43) (by omega) (by decide)
  have e2 : nI k = 45 ↔ k = 45 := nI_eq (b := 45) (by omega) (by decide)
  rw [e1, e2]
  unfold oA
  split
  · omega
  · split <;> omega
theorem oM_e {k : Nat} (h : oM k ≠ 0) : encI (oM k, 0) = -nI k ∧ 2 ≤ k ∧ k < 300 := by
  unfold oM at h ⊢
  split
  · rename_i h1; subst h1; decide
  · rename_i h1
    rw [if_neg h1] at h
    split
    · rename_i h2; subst h2; decide
    · rename_i h2; rw [if_neg h2] at h; exact absurd rfl h
theorem oA_e {k : Nat} (h : oA k ≠ 0) : encI (oA k, 0) = -nI k ∧ 2 ≤ k ∧ k < 300 := by
  unfold oA at h ⊢
  split
  · rename_i h1; subst h1; decide
  · rename_i h1
    rw [if_neg h1] at h
    split
    · rename_i h2; subst h2; decide
    · rename_i h2; rw [if_neg h2] at h; exact absurd rfl h
section
variable (d : Nat) (fm : Value) (X : Nat × (Nat → Int32)) (s : Nat → Nat → Int32) (t : Nat → Nat → Int64)
variable {K P v : Nat → Nat} {nm : Nat → List Nat}
theorem t_La_add_65 {z : Nat} (hz : z ≤ 400) (h : s 65 3 = nI z) (e : Int32) : ab_T g_La_add d (0, 0) [.ref 65, .int e] (HA fm X s t) (PV (HA fm X (adL s 65 z e) t)) := by
  unfold adL
  refine ab_T_of (M := m_La_add) rfl rfl (Nat.le_of_ble_eq_true rfl) ?_
  show ab_Z m_La_add _ _ _ 0 [_, _] [] _
  refine ab_go ok_La_add 2 rfl ?_
  show ab_Z m_La_add _ _ _ 2 [_, _] [_] _
  rw [h]
  refine ab_br ok_La_add rfl rfl ?_ ?_
  · intro h0
    show ab_Z m_La_add _ _ _ 21 [_, _] [] _
    exact absurd h0 (nI_l0 (by omega))
  · intro h0
    show ab_Z m_La_add _ _ _ 3 [_, _] [] _
    refine ab_go ok_La_add 5 rfl ?_
    show ab_Z m_La_add _ _ _ 8 [_, _] [_, _] _
    rw [h]
    refine ab_br ok_La_add rfl rfl ?_ ?_
    · intro h1
      show ab_Z m_La_add _ _ _ 21 [_, _] [] _
      have h1' := (nI_leI (show 400 < 2 ^ 31 by decide) (show z < 2 ^ 31 by omega)).mp h1
      exact ab_rV ok_La_add rfl (⟨rfl, by rw [if_neg (by omega)]⟩)
    · intro h1
      show ab_Z m_La_add _ _ _ 9 [_, _] [] _
      have h1' : z < 400 := by
        rcases Nat.lt_or_ge z 400 with q | q
        · exact q
        · exact absurd ((nI_leI (show 400 < 2 ^ 31 by decide) (show z < 2 ^ 31 by omega)).mpr q) h1
      rw [if_pos h1']
      refine ab_go ok_La_add 5 rfl ?_
      show ab_Z m_La_add _ _ _ 14 [_, _] [_, _, _] _
      rw [h]
      refine ab_is ok_La_add rfl rfl (k := z) (by first | rfl | (simp only [LL1, LL2, LL3, LL4, LL5, LL6, LL7, LL8, LL10, LL15, LL18, LL20, LL21, LL22, LL23, LL24, LL32, LL39, LL40, LL130, LL420, pk_mul, nI_add]; done) | (simp only [LL1, LL2, LL3, LL4, LL5, LL6, LL7, LL8, LL10, LL15, LL18, LL20, LL21, LL22, LL23, LL24, LL32, LL39, LL40, LL130, LL420, pk_mul, nI_add]; congr 1; omega)) (by omega) (Nat.le_of_ble_eq_true rfl) ?_
      show ab_Z m_La_add _ _ _ 15 [_, _] [] _
      refine ab_go ok_La_add 6 rfl ?_
      show ab_Z m_La_add _ _ _ 21 [_, _] [] _
      rw [show ab_up s 66 z e 65 3 = nI z from by rw [ab_up_o (by decide)]; exact h, ← nI_succ]
      exact ab_rV ok_La_add rfl (⟨rfl, rfl⟩)
theorem t_La_add_69 {z : Nat} (hz : z ≤ 400) (h : s 69 3 = nI z) (e : Int32) : ab_T g_La_add d (0, 0) [.ref 69, .int e] (HA fm X s t) (PV (HA fm X (adL s 69 z e) t)) := by
  unfold adL
  refine ab_T_of (M := m_La_add) rfl rfl (Nat.le_of_ble_eq_true rfl) ?_
  show ab_Z m_La_add _ _ _ 0 [_, _] [] _
  refine ab_go ok_La_add 2 rfl ?_
  show ab_Z m_La_add _ _ _ 2 [_, _] [_] _
  rw [h]
  refine ab_br ok_La_add rfl rfl ?_ ?_
  · intro h0
    show ab_Z m_La_add _ _ _ 21 [_, _] [] _
    exact absurd h0 (nI_l0 (by omega))
  · intro h0
    show ab_Z m_La_add _ _ _ 3 [_, _] [] _
    refine ab_go ok_La_add 5 rfl ?_
    show ab_Z m_La_add _ _ _ 8 [_, _] [_, _] _
    rw [h]
    refine ab_br ok_La_add rfl rfl ?_ ?_
    · intro h1
      show ab_Z m_La_add _ _ _ 21 [_, _] [] _
      have h1' := (nI_leI (show 400 < 2 ^ 31 by decide) (show z < 2 ^ 31 by omega)).mp h1
      exact ab_rV ok_La_add rfl (⟨rfl, by rw [if_neg (by omega)]⟩)
    · intro h1
      show ab_Z m_La_add _ _ _ 9 [_, _] [] _
      have h1' : z < 400 := by
        rcases Nat.lt_or_ge z 400 with q | q
        · exact q
        · exact absurd ((nI_leI (show 400 < 2 ^ 31 by decide) (show z < 2 ^ 31 by omega)).mpr q) h1
      rw [if_pos h1']
      refine ab_go ok_La_add 5 rfl ?_
      show ab_Z m_La_add _ _ _ 14 [_, _] [_, _, _] _
      rw [h]
      refine ab_is ok_La_add rfl rfl (k := z) (by first | rfl | (simp only [LL1, LL2, LL3, LL4, LL5, LL6, LL7, LL8, LL10, LL15, LL18, LL20, LL21, LL22, LL23, LL24, LL32, LL39, LL40, LL130, LL420, pk_mul, nI_add]; done) | (simp only [LL1, LL2, LL3, LL4, LL5, LL6, LL7, LL8, LL10, LL15, LL18, LL20, LL21, LL22, LL23, LL24, LL32, LL39, LL40, LL130, LL420, pk_mul, nI_add]; congr 1; omega)) (by omega) (Nat.le_of_ble_eq_true rfl) ?_
      show ab_Z m_La_add _ _ _ 15 [_, _] [] _
      refine ab_go ok_La_add 6 rfl ?_
      show ab_Z m_La_add _ _ _ 21 [_, _] [] _
      rw [show ab_up s 70 z e 69 3 = nI z from by rw [ab_up_o (by decide)]; exact h, ← nI_succ]
      exact ab_rV ok_La_add rfl (⟨rfl, rfl⟩)
theorem t_La_add_73 {z : Nat} (hz : z ≤ 400) (h : s 73 3 = nI z) (e : Int32) : ab_T g_La_add d (0, 0) [.ref 73, .int e] (HA fm X s t) (PV (HA fm X (adL s 73 z e) t)) := by
  unfold adL
  refine ab_T_of (M := m_La_add) rfl rfl (Nat.le_of_ble_eq_true rfl) ?_
  show ab_Z m_La_add _ _ _ 0 [_, _] [] _
  refine ab_go ok_La_add 2 rfl ?_
  show ab_Z m_La_add _ _ _ 2 [_, _] [_] _
  rw [h]
  refine ab_br ok_La_add rfl rfl ?_ ?_
  · intro h0
    show ab_Z m_La_add _ _ _ 21 [_, _] [] _
    exact absurd h0 (nI_l0 (by omega))
  · intro h0
    show ab_Z m_La_add _ _ _ 3 [_, _] [] _
    refine ab_go ok_La_add 5 rfl ?_
    show ab_Z m_La_add _ _ _ 8 [_, _] [_, _] _
    rw [h]
    refine ab_br ok_La_add rfl rfl ?_ ?_
    · intro h1
      show ab_Z m_La_add _ _ _ 21 [_, _] [] _
      have h1' := (nI_leI (show 400 < 2 ^ 31 by decide) (show z < 2 ^ 31 by omega)).mp h1
      exact ab_rV ok_La_add rfl (⟨rfl, by rw [if_neg (by omega)]⟩)
    · intro h1
      show ab_Z m_La_add _ _ _ 9 [_, _] [] _
      have h1' : z < 400 := by
        rcases Nat.lt_or_ge z 400 with q | q
        · exact q
        · exact absurd ((nI_leI (show 400 < 2 ^ 31 by decide) (show z < 2 ^ 31 by omega)).mpr q) h1
      rw [if_pos h1']
      refine ab_go ok_La_add 5 rfl ?_
      show ab_Z m_La_add _ _ _ 14 [_, _] [_, _, _] _
      rw [h]
      refine ab_is ok_La_add rfl rfl (k := z) (by first | rfl | (simp only [LL1, LL2, LL3, LL4, LL5, LL6, LL7, LL8, LL10, LL15, LL18, LL20, LL21, LL22, LL23, LL24, LL32, LL39, LL40, LL130, LL420, pk_mul, nI_add]; done) | (simp only [LL1, LL2, LL3, LL4, LL5, LL6, LL7, LL8, LL10, LL15, LL18, LL20, LL21, LL22, LL23, LL24, LL32, LL39, LL40, LL130, LL420, pk_mul, nI_add]; congr 1; omega)) (by omega) (Nat.le_of_ble_eq_true rfl) ?_
      show ab_Z m_La_add _ _ _ 15 [_, _] [] _
      refine ab_go ok_La_add 6 rfl ?_
      show ab_Z m_La_add _ _ _ 21 [_, _] [] _
      rw [show ab_up s 74 z e 73 3 = nI z from by rw [ab_up_o (by decide)]; exact h, ← nI_succ]
      exact ab_rV ok_La_add rfl (⟨rfl, rfl⟩)
theorem t_La_add_77 {z : Nat} (hz : z ≤ 400) (h : s 77 3 = nI z) (e : Int32) : ab_T g_La_add d (0, 0) [.ref 77, .int e] (HA fm X s t) (PV (HA fm X (adL s 77 z e) t)) := by
  unfold adL
  refine ab_T_of (M := m_La_add) rfl rfl (Nat.le_of_ble_eq_true rfl) ?_
  show ab_Z m_La_add _ _ _ 0 [_, _] [] _
  refine ab_go ok_La_add 2 rfl ?_
  show ab_Z m_La_add _ _ _ 2 [_, _] [_] _
  rw [h]
  refine ab_br ok_La_add rfl rfl ?_ ?_
  · intro h0
    show ab_Z m_La_add _ _ _ 21 [_, _] [] _
    exact absurd h0 (nI_l0 (by omega))
  · intro h0
    show ab_Z m_La_add _ _ _ 3 [_, _] [] _
    refine ab_go ok_La_add 5 rfl ?_
    show ab_Z m_La_add _ _ _ 8 [_, _] [_, _] _
    rw [h]
    refine ab_br ok_La_add rfl rfl ?_ ?_
    · intro h1
      show ab_Z m_La_add _ _ _ 21 [_, _] [] _
      have h1' := (nI_leI (show 400 < 2 ^ 31 by decide) (show z < 2 ^ 31 by omega)).mp h1
      exact ab_rV ok_La_add rfl (⟨rfl, by rw [if_neg (by omega)]⟩)
    · intro h1
      show ab_Z m_La_add _ _ _ 9 [_, _] [] _
      have h1' : z < 400 := by
        rcases Nat.lt_or_ge z 400 with q | q
        · exact q
        · exact absurd ((nI_leI (show 400 < 2 ^ 31 by decide) (show z < 2 ^ 31 by omega)).mpr q) h1
      rw [if_pos h1']
      refine ab_go ok_La_add 5 rfl ?_
      show ab_Z m_La_add _ _ _ 14 [_, _] [_, _, _] _
      rw [h]
      refine ab_is ok_La_add rfl rfl (k := z) (by first | rfl | (simp only [LL1, LL2, LL3, LL4, LL5, LL6, LL7, LL8, LL10, LL15, LL18, LL20, LL21, LL22, LL23, LL24, LL32, LL39, LL40, LL130, LL420, pk_mul, nI_add]; done) | (simp only [LL1, LL2, LL3, LL4, LL5, LL6, LL7, LL8, LL10, LL15, LL18, LL20, LL21, LL22, LL23, LL24, LL32, LL39, LL40, LL130, LL420, pk_mul, nI_add]; congr 1; omega)) (by omega) (Nat.le_of_ble_eq_true rfl) ?_
      show ab_Z m_La_add _ _ _ 15 [_, _] [] _
      refine ab_go ok_La_add 6 rfl ?_
      show ab_Z m_La_add _ _ _ 21 [_, _] [] _
      rw [show ab_up s 78 z e 77 3 = nI z from by rw [ab_up_o (by decide)]; exact h, ← nI_succ]
      exact ab_rV ok_La_add rfl (⟨rfl, rfl⟩)
theorem t_Re_parseProduct_65 {D : Nat} {dep : Int32} {u : Nat → Rs (Nat × List Ins)} (hE : ExpR u) (hu : CtL g_Re_parseUnit 65 (D + 1) fm X t K P v nm dep u) : CtL g_Re_parseProduct 65 (D + 2) fm X t K P v nm dep (lvT K oM u) := by
  intro s R Q hT hR hQ hZ
  obtain ⟨F, hF⟩ : ∃ F, F = bnd R (lvT K oM u) := ⟨_, rfl⟩
  rw [← hF]
  generalize hPo : PLw fm X s t K 65 Q F = Po
  have hposR : ∀ n, R = .inl n → n ≤ 400 := fun n h => by rw [h] at hR; exact hR.2.2.2.1
  refine ab_T_of (M := m_Re_parseProduct) rfl rfl (Nat.le_of_ble_eq_true rfl) ?_
  show ab_Z m_Re_parseProduct _ _ _ 0 [_, _, _, _, _] [] _
  refine ab_go ok_Re_parseProduct 3 rfl ?_
  show ab_Z m_Re_parseProduct _ _ _ 3 [_, _, _, _, _] [_, _, _] _
  refine ab_cl ok_Re_parseProduct rfl [_, _, _] [] rfl ⟨_, _, rfl, rfl, Or.inl ⟨_, _, rfl, rfl⟩⟩ (Nat.le_of_ble_eq_true rfl) (hu s R Q hT hR hQ hZ) ?_
  rintro _ _ ⟨rfl, s1, rfl, k1, hR1, hZ1, hq1⟩
  show ab_Z m_Re_parseProduct _ _ _ 4 [_, _, _, _, _] [] _
  refine ab_go ok_Re_parseProduct 2 rfl ?_
  show ab_Z m_Re_parseProduct _ _ _ 6 [_, _, _, _, _] [] _
  have main := lp_dn 400 (fun i => ∀ s1 Z, KS 65 s s1 → Rd s1 K (mpT Prod.fst Z) → LwZ s1 65 → (∀ q : Nat × List Ins, Z = .inl q → LwC s1 65 (Q ++ q.2) ∧ (Q ++ q.2).length ≤ q.1) → (bnd Z fun q => lvL K oM u (400 - i) q.1 q.2) = F → ab_Z m_Re_parseProduct (D + 2) (0, 0) Po 6 [some (.ref 8), some (.ref 65), some (.int dep), some (.int (nI i)), none] [] (HA fm X s1 t)) ?_ ?_
  · refine main s1 (bnd R u) k1 hR1 hZ1 (fun q hq => ⟨hq1 q hq, ?_⟩) ?_
    · obtain ⟨n, e1, e2⟩ := bnd_in hq
      have a1 := (hE n (hposR n e1)).2 q e2
      have a2 := (hQ n e1).2
      rw [List.length_append]
      omega
    · rw [hF, bnd_bnd]
      rfl
  · intro s1 Z k1 hR1 hZ1 hq1 hFe
    have hZF : Z = F := by
      rw [← hFe]
      cases Z <;> rfl
    rw [hZF] at hR1 hq1
    refine ab_go ok_Re_parseProduct 2 rfl ?_
    show ab_Z m_Re_parseProduct _ _ _ 8 [_, _, _, _, _] [_, _] _
    refine ab_go ok_Re_parseProduct 1 rfl ?_
    show ab_Z m_Re_parseProduct _ _ _ 37 [_, _, _, _, _] [] _
    have fin : Po none (HA fm X s1 t) := by
      rw [← hPo]
      exact ⟨rfl, s1, rfl, k1, hR1, hZ1, fun q hq => (hq1 q hq).1⟩
    exact ab_rV ok_Re_parseProduct rfl (fin)
  · intro i hi ih s1 Z k1 hR1 hZ1 hq1 hFe
    have hT1 := hT.k (k1.r (by decide)) (KRt.rf t)
    refine ab_go ok_Re_parseProduct 2 rfl ?_
    show ab_Z m_Re_parseProduct _ _ _ 8 [_, _, _, _, _] [_, _] _
    refine ab_br ok_Re_parseProduct rfl rfl ?_ ?_
    · intro h1
      show ab_Z m_Re_parseProduct _ _ _ 37 [_, _, _, _, _] [] _
      exact absurd h1 (lp_in (N := 400) (by decide) hi)
    · intro h1
      show ab_Z m_Re_parseProduct _ _ _ 9 [_, _, _, _, _] [] _
      refine ab_go ok_Re_parseProduct 2 rfl ?_
      show ab_Z m_Re_parseProduct _ _ _ 11 [_, _, _, _, _] [_] _
      cases hZc : Z with
      | inr e =>
        rw [hZc] at hR1 hFe hq1
        obtain ⟨a1, a2, a3, a4⟩ := hR1
        rw [a2]
        refine ab_br ok_Re_parseProduct rfl rfl ?_ ?_
        · intro h2
          show ab_Z m_Re_parseProduct _ _ _ 12 [_, _, _, _, _] [] _
          exact absurd h2 (nI_ne0 (by omega) (by omega))
        · intro h2
          show ab_Z m_Re_parseProduct _ _ _ 37 [_, _, _, _, _] [] _
          have fin : Po none (HA fm X s1 t) := by
            rw [← hPo, ← hFe]
            exact ⟨rfl, s1, rfl, k1, ⟨a1, a2, a3, a4⟩, hZ1, fun q hq => by cases hq⟩
          exact ab_rV ok_Re_parseProduct rfl (fin)
      | inl q =>
        rw [hZc] at hR1 hFe hq1
        obtain ⟨a1, a2, a3, a4⟩ := hR1
        obtain ⟨hL1, hlen⟩ := hq1 q rfl
        have hKq := hT.2.1 q.1
        have hoi := oM_i (k := K q.1) (by omega)
        rw [a3]
        refine ab_go ok_Re_parseProduct 1 rfl ?_
        show ab_Z m_Re_parseProduct _ _ _ 12 [_, _, _, _, _] [] _
        have out : oM (K q.1) = 0 → ∀ l4, ab_Z m_Re_parseProduct (D + 2) (0, 0) Po 37 [some (.ref 8), some (.ref 65), some (.int dep), some (.int (nI i)), l4] [] (HA fm X s1 t) := by
          intro h0 l4
          have fin : Po none (HA fm X s1 t) := by
            rw [← hPo, ← hFe, bnd_l, show 400 - i = (400 - (i + 1)) + 1 by omega, lvL, if_pos h0]
            exact ⟨rfl, s1, rfl, k1, ⟨a1, a2, a3, a4⟩, hZ1, fun q' hq' => by cases hq'; exact hL1⟩
          exact ab_rV ok_Re_parseProduct rfl (fin)
        have on : oM (K q.1) ≠ 0 → ab_Z m_Re_parseProduct (D + 2) (0, 0) Po 20 [some (.ref 8), some (.ref 65), some (.int dep), some (.int (nI i)), none] [] (HA fm X s1 t) := by
          intro h0
          obtain ⟨he1, he2, he3⟩ := oM_e h0
          have heat : bnd (.inl q.1 : Rs Nat) (eatT K (K q.1)) = goT q.1 := by
            rw [bnd_l]
            unfold eatT
            rw [if_pos rfl]
          have hR1' : Rd s1 K (.inl q.1) := ⟨a1, a2, a3, a4⟩
          refine ab_go ok_Re_parseProduct 5 rfl ?_
          show ab_Z m_Re_parseProduct _ _ _ 25 [_, _, _, _, _] [_, _] _
          rw [a2]
          refine ab_cl ok_Re_parseProduct rfl [_, _] [] rfl ⟨_, _, rfl, rfl, Or.inl ⟨_, _, rfl, rfl⟩⟩ (Nat.le_of_ble_eq_true rfl) (t_Re_accept (D + 1) fm X s1 t hT1 hR1' he2 he3 _ rfl) ?_
          rintro _ _ ⟨rfl, s2, rfl, k2, hR2⟩
          show ab_Z m_Re_parseProduct _ _ _ 26 [_, _, _, _, _] [_] _
          rw [heat] at hR2
          have hg := go_st (t := q.1) a4.1
          refine ab_go ok_Re_parseProduct 4 rfl ?_
          show ab_Z m_Re_parseProduct _ _ _ 30 [_, _, _, _, _] [_, _, _] _
          refine ab_cl ok_Re_parseProduct rfl [_, _, _] [] rfl ⟨_, _, rfl, rfl, Or.inl ⟨_, _, rfl, rfl⟩⟩ (Nat.le_of_ble_eq_true rfl) (hu s2 (goT q.1) (Q ++ q.2) (hT1.k k2.l.r (KRt.rf t)) hR2 (fun n hn => ⟨k2.c (by decide) hL1, by have h9 : q.1 < n := (hg.1 n hn).1; omega⟩) (k2.z (by decide) hZ1)) ?_
          rintro _ _ ⟨rfl, s3, rfl, k3, hR3, ⟨z, hz4, hz3⟩, hq3⟩
          show ab_Z m_Re_parseProduct _ _ _ 31 [_, _, _, _, _] [] _
          refine ab_go ok_Re_parseProduct 3 rfl ?_
          show ab_Z m_Re_parseProduct _ _ _ 34 [_, _, _, _, _] [_, _] _
          refine ab_cl ok_Re_parseProduct rfl [_, _] [] rfl ⟨_, _, rfl, rfl, Or.inl ⟨_, _, rfl, rfl⟩⟩ (Nat.le_of_ble_eq_true rfl) (t_La_add_65 (D + 1) fm X s3 t hz4 hz3 _) ?_
          rintro _ _ ⟨rfl, rfl⟩
          show ab_Z m_Re_parseProduct _ _ _ 35 [_, _, _, _, _] [] _
          refine ab_go ok_Re_parseProduct 2 rfl ?_
          show ab_Z m_Re_parseProduct _ _ _ 6 [_, _, _, _, _] [] _
          rw [← nI_succ]
          obtain ⟨Z2, hZ2⟩ : ∃ Z2, Z2 = bnd (goT q.1) fun t1 => bnd (u t1) fun q' => .inl (q'.1, q.2 ++ (q'.2 ++ [(oM (K q.1), 0)])) := ⟨_, rfl⟩
          have k4 := adL_k s3 65 z (-nI (K q.1))
          have e8 : ∀ j, adL s3 65 z (-nI (K q.1)) 8 j = s3 8 j := fun j => by
            unfold adL
            split
            · rw [ab_up_o (by decide), ab_up_o (by decide)]
            · rfl
          refine ih _ Z2 ((k1.tr k2.s).tr (k3.tr k4)) ?_ (adL_z hz4 hz3) (fun q2 hq2 => ?_) ?_
          · have e1 : mpT Prod.fst Z2 = mpT Prod.fst (bnd (goT q.1) u) := by
              rw [hZ2]
              cases goT q.1 with
              | inr e => rfl
              | inl t1 =>
                simp only [bnd_l]
                cases u t1 <;> rfl
            rw [e1]
            exact hR3.of (e8 1) (e8 2) (e8 3)
          · rw [hZ2] at hq2
            obtain ⟨t1, b1, b2⟩ := bnd_in hq2
            obtain ⟨q', b3, b4⟩ := bnd_in b2
            cases b4
            have c1 : q.1 < t1 ∧ t1 ≤ 400 := hg.1 t1 b1
            obtain ⟨c2, c3⟩ := hE t1 c1.2
            have c4 := c2.1 q' b3
            have c5 := c3 q' b3
            have hL3 := hq3 q' (by rw [b1, bnd_l]; exact b3)
            have hlz : z = ((Q ++ q.2) ++ q'.2).length := by
              have := hz3.symm.trans hL3.1
              have hll : ((Q ++ q.2) ++ q'.2).length ≤ 400 := by rw [List.length_append]; omega
              exact (nI_eq (by omega) (by omega)).mp this
            have hl4 : ((Q ++ q.2) ++ q'.2).length < 400 := by rw [List.length_append]; omega
            refine ⟨?_, ?_⟩
            · have := adL_c (q := (oM (K q.1), 0)) hl4 hL3
              rw [← hlz, he1] at this
              rw [show Q ++ (q'.1, q.2 ++ (q'.2 ++ [(oM (K q.1), 0)])).2 = Q ++ q.2 ++ q'.2 ++ [(oM (K q.1), 0)] from by simp [List.append_assoc]]
              exact this
            · show (Q ++ (q.2 ++ (q'.2 ++ [(oM (K q.1), 0)]))).length ≤ q'.1
              simp only [List.length_append, List.length_singleton] at hlen ⊢
              omega
          · rw [hZ2, ← hFe, bnd_l, show 400 - i = (400 - (i + 1)) + 1 by omega, lvL, if_neg h0, bnd_bnd]
            refine bnd_cg (fun t1 _ => ?_)
            rw [bnd_bnd]
            rfl
        refine ab_go ok_Re_parseProduct 3 rfl ?_
        show ab_Z m_Re_parseProduct _ _ _ 15 [_, _, _, _, _] [_, _] _
        rw [a2]
        refine ab_br ok_Re_parseProduct rfl rfl ?_ ?_
        · intro h3
          show ab_Z m_Re_parseProduct _ _ _ 20 [_, _, _, _, _] [] _
          exact on (hoi.mpr (Or.inl h3))
        · intro h3
          show ab_Z m_Re_parseProduct _ _ _ 16 [_, _, _, _, _] [] _
          refine ab_go ok_Re_parseProduct 3 rfl ?_
          show ab_Z m_Re_parseProduct _ _ _ 19 [_, _, _, _, _] [_, _] _
          rw [a2]
          refine ab_br ok_Re_parseProduct rfl rfl ?_ ?_
          · intro h4
            show ab_Z m_Re_parseProduct _ _ _ 20 [_, _, _, _, _] [] _
            exact on (hoi.mpr (Or.inr h4))
          · intro h4
            show ab_Z m_Re_parseProduct _ _ _ 37 [_, _, _, _, _] [] _
            exact out (Decidable.byContradiction fun z => (hoi.mp z).elim h3 h4) _
theorem t_Re_parseSum_65 {D : Nat} {dep : Int32} {u : Nat → Rs (Nat × List Ins)} (hE : ExpR u) (hu : CtL g_Re_parseProduct 65 (D + 1) fm X t K P v nm dep u) : CtL g_Re_parseSum 65 (D + 2) fm X t K P v nm dep (lvT K oA u) := by
  intro s R Q hT hR hQ hZ
  obtain ⟨F, hF⟩ : ∃ F, F = bnd R (lvT K oA u) := ⟨_, rfl⟩
  rw [← hF]
  generalize hPo : PLw fm X s t K 65 Q F = Po
  have hposR : ∀ n, R = .inl n → n ≤ 400 := fun n h => by rw [h] at hR; exact hR.2.2.2.1
  refine ab_T_of (M := m_Re_parseSum) rfl rfl (Nat.le_of_ble_eq_true rfl) ?_
  show ab_Z m_Re_parseSum _ _ _ 0 [_, _, _, _, _] [] _
  refine ab_go ok_Re_parseSum 3 rfl ?_
  show ab_Z m_Re_parseSum _ _ _ 3 [_, _, _, _, _] [_, _, _] _
  refine ab_cl ok_Re_parseSum rfl [_, _, _] [] rfl ⟨_, _, rfl, rfl, Or.inl ⟨_, _, rfl, rfl⟩⟩ (Nat.le_of_ble_eq_true rfl) (hu s R Q hT hR hQ hZ) ?_
  rintro _ _ ⟨rfl, s1, rfl, k1, hR1, hZ1, hq1⟩
  show ab_Z m_Re_parseSum _ _ _ 4 [_, _, _, _, _] [] _
  refine ab_go ok_Re_parseSum 2 rfl ?_
  show ab_Z m_Re_parseSum _ _ _ 6 [_, _, _, _, _] [] _
  have main := lp_dn 400 (fun i => ∀ s1 Z, KS 65 s s1 → Rd s1 K (mpT Prod.fst Z) → LwZ s1 65 → (∀ q : Nat × List Ins, Z = .inl q → LwC s1 65 (Q ++ q.2) ∧ (Q ++ q.2).length ≤ q.1) → (bnd Z fun q => lvL K oA u (400 - i) q.1 q.2) = F → ab_Z m_Re_parseSum (D + 2) (0, 0) Po 6 [some (.ref 8), some (.ref 65), some (.int dep), some (.int (nI i)), none] [] (HA fm X s1 t)) ?_ ?_
  · refine main s1 (bnd R u) k1 hR1 hZ1 (fun q hq => ⟨hq1 q hq, ?_⟩) ?_
    · obtain ⟨n, e1, e2⟩ := bnd_in hq
      have a1 := (hE n (hposR n e1)).2 q e2
      have a2 := (hQ n e1).2
      rw [List.length_append]
      omega
    · rw [hF, bnd_bnd]
      rfl
  · intro s1 Z k1 hR1 hZ1 hq1 hFe
    have hZF : Z = F := by
      rw [← hFe]
      cases Z <;> rfl
    rw [hZF] at hR1 hq1
    refine ab_go ok_Re_parseSum 2 rfl ?_
    show ab_Z m_Re_parseSum _ _ _ 8 [_, _, _, _, _] [_, _] _
    refine ab_go ok_Re_parseSum 1 rfl ?_
    show ab_Z m_Re_parseSum _ _ _ 37 [_, _, _, _, _] [] _
    have fin : Po none (HA fm X s1 t) := by
      rw [← hPo]
      exact ⟨rfl, s1, rfl, k1, hR1, hZ1, fun q hq => (hq1 q hq).1⟩
    exact ab_rV ok_Re_parseSum rfl (fin)
  · intro i hi ih s1 Z k1 hR1 hZ1 hq1 hFe
    have hT1 := hT.k (k1.r (by decide)) (KRt.rf t)
    refine ab_go ok_Re_parseSum 2 rfl ?_
    show ab_Z m_Re_parseSum _ _ _ 8 [_, _, _, _, _] [_, _] _
    refine ab_br ok_Re_parseSum rfl rfl ?_ ?_
    · intro h1
      show ab_Z m_Re_parseSum _ _ _ 37 [_, _, _, _, _] [] _
      exact absurd h1 (lp_in (N := 400) (by decide) hi)
    · intro h1
      show ab_Z m_Re_parseSum _ _ _ 9 [_, _, _, _, _] [] _
      refine ab_go ok_Re_parseSum 2 rfl ?_
      show ab_Z m_Re_parseSum _ _ _ 11 [_, _, _, _, _] [_] _
      cases hZc : Z with
      | inr e =>
        rw [hZc] at hR1 hFe hq1
        obtain ⟨a1, a2, a3, a4⟩ := hR1
        rw [a2]
        refine ab_br ok_Re_parseSum rfl rfl ?_ ?_
        · intro h2
          show ab_Z m_Re_parseSum _ _ _ 12 [_, _, _, _, _] [] _
          exact absurd h2 (nI_ne0 (by omega) (by omega))
        · intro h2
          show ab_Z m_Re_parseSum _ _ _ 37 [_, _, _, _, _] [] _
          have fin : Po none (HA fm X s1 t) := by
            rw [← hPo, ← hFe]
            exact ⟨rfl, s1, rfl, k1, ⟨a1, a2, a3, a4⟩, hZ1, fun q hq => by cases hq⟩
          exact ab_rV ok_Re_parseSum rfl (fin)
      | inl q =>
        rw [hZc] at hR1 hFe hq1
        obtain ⟨a1, a2, a3, a4⟩ := hR1
        obtain ⟨hL1, hlen⟩ := hq1 q rfl
        have hKq := hT.2.1 q.1
        have hoi := oA_i (k := K q.1) (by omega)
        rw [a3]
        refine ab_go ok_Re_parseSum 1 rfl ?_
        show ab_Z m_Re_parseSum _ _ _ 12 [_, _, _, _, _] [] _
        have out : oA (K q.1) = 0 → ∀ l4, ab_Z m_Re_parseSum (D + 2) (0, 0) Po 37 [some (.ref 8), some (.ref 65), some (.int dep), some (.int (nI i)), l4] [] (HA fm X s1 t) := by
          intro h0 l4
          have fin : Po none (HA fm X s1 t) := by
            rw [← hPo, ← hFe, bnd_l, show 400 - i = (400 - (i + 1)) + 1 by omega, lvL, if_pos h0]
            exact ⟨rfl, s1, rfl, k1, ⟨a1, a2, a3, a4⟩, hZ1, fun q' hq' => by cases hq'; exact hL1⟩
          exact ab_rV ok_Re_parseSum rfl (fin)
        have on : oA (K q.1) ≠ 0 → ab_Z m_Re_parseSum (D + 2) (0, 0) Po 20 [some (.ref 8), some (.ref 65), some (.int dep), some (.int (nI i)), none] [] (HA fm X s1 t) := by
          intro h0
          obtain ⟨he1, he2, he3⟩ := oA_e h0
          have heat : bnd (.inl q.1 : Rs Nat) (eatT K (K q.1)) = goT q.1 := by
            rw [bnd_l]
            unfold eatT
            rw [if_pos rfl]
          have hR1' : Rd s1 K (.inl q.1) := ⟨a1, a2, a3, a4⟩
          refine ab_go ok_Re_parseSum 5 rfl ?_
          show ab_Z m_Re_parseSum _ _ _ 25 [_, _, _, _, _] [_, _] _
          rw [a2]
          refine ab_cl ok_Re_parseSum rfl [_, _] [] rfl ⟨_, _, rfl, rfl, Or.inl ⟨_, _, rfl, rfl⟩⟩ (Nat.le_of_ble_eq_true rfl) (t_Re_accept (D + 1) fm X s1 t hT1 hR1' he2 he3 _ rfl) ?_
          rintro _ _ ⟨rfl, s2, rfl, k2, hR2⟩
          show ab_Z m_Re_parseSum _ _ _ 26 [_, _, _, _, _] [_] _
          rw [heat] at hR2
          have hg := go_st (t := q.1) a4.1
          refine ab_go ok_Re_parseSum 4 rfl ?_
          show ab_Z m_Re_parseSum _ _ _ 30 [_, _, _, _, _] [_, _, _] _
          refine ab_cl ok_Re_parseSum rfl [_, _, _] [] rfl ⟨_, _, rfl, rfl, Or.inl ⟨_, _, rfl, rfl⟩⟩ (Nat.le_of_ble_eq_true rfl) (hu s2 (goT q.1) (Q ++ q.2) (hT1.k k2.l.r (KRt.rf t)) hR2 (fun n hn => ⟨k2.c (by decide) hL1, by have h9 : q.1 < n := (hg.1 n hn).1; omega⟩) (k2.z (by decide) hZ1)) ?_
          rintro _ _ ⟨rfl, s3, rfl, k3, hR3, ⟨z, hz4, hz3⟩, hq3⟩
          show ab_Z m_Re_parseSum _ _ _ 31 [_, _, _, _, _] [] _
          refine ab_go ok_Re_parseSum 3 rfl ?_
          show ab_Z m_Re_parseSum _ _ _ 34 [_, _, _, _, _] [_, _] _
          refine ab_cl ok_Re_parseSum rfl [_, _] [] rfl ⟨_, _, rfl, rfl, Or.inl ⟨_, _, rfl, rfl⟩⟩ (Nat.le_of_ble_eq_true rfl) (t_La_add_65 (D + 1) fm X s3 t hz4 hz3 _) ?_
          rintro _ _ ⟨rfl, rfl⟩
          show ab_Z m_Re_parseSum _ _ _ 35 [_, _, _, _, _] [] _
          refine ab_go ok_Re_parseSum 2 rfl ?_
          show ab_Z m_Re_parseSum _ _ _ 6 [_, _, _, _, _] [] _
          rw [← nI_succ]
          obtain ⟨Z2, hZ2⟩ : ∃ Z2, Z2 = bnd (goT q.1) fun t1 => bnd (u t1) fun q' => .inl (q'.1, q.2 ++ (q'.2 ++ [(oA (K q.1), 0)])) := ⟨_, rfl⟩
          have k4 := adL_k s3 65 z (-nI (K q.1))
          have e8 : ∀ j, adL s3 65 z (-nI (K q.1)) 8 j = s3 8 j := fun j => by
            unfold adL
            split
            · rw [ab_up_o (by decide), ab_up_o (by decide)]
            · rfl
          refine ih _ Z2 ((k1.tr k2.s).tr (k3.tr k4)) ?_ (adL_z hz4 hz3) (fun q2 hq2 => ?_) ?_
          · have e1 : mpT Prod.fst Z2 = mpT Prod.fst (bnd (goT q.1) u) := by
              rw [hZ2]
              cases goT q.1 with
              | inr e => rfl
              | inl t1 =>
                simp only [bnd_l]
                cases u t1 <;> rfl
            rw [e1]
            exact hR3.of (e8 1) (e8 2) (e8 3)
          · rw [hZ2] at hq2
            obtain ⟨t1, b1, b2⟩ := bnd_in hq2
            obtain ⟨q', b3, b4⟩ := bnd_in b2
            cases b4
            have c1 : q.1 < t1 ∧ t1 ≤ 400 := hg.1 t1 b1
            obtain ⟨c2, c3⟩ := hE t1 c1.2
            have c4 := c2.1 q' b3
            have c5 := c3 q' b3
            have hL3 := hq3 q' (by rw [b1, bnd_l]; exact b3)
            have hlz : z = ((Q ++ q.2) ++ q'.2).length := by
              have := hz3.symm.trans hL3.1
              have hll : ((Q ++ q.2) ++ q'.2).length ≤ 400 := by rw [List.length_append]; omega
              exact (nI_eq (by omega) (by omega)).mp this
            have hl4 : ((Q ++ q.2) ++ q'.2).length < 400 := by rw [List.length_append]; omega
            refine ⟨?_, ?_⟩
            · have := adL_c (q := (oA (K q.1), 0)) hl4 hL3
              rw [← hlz, he1] at this
              rw [show Q ++ (q'.1, q.2 ++ (q'.2 ++ [(oA (K q.1), 0)])).2 = Q ++ q.2 ++ q'.2 ++ [(oA (K q.1), 0)] from by simp [List.append_assoc]]
              exact this
            · show (Q ++ (q.2 ++ (q'.2 ++ [(oA (K q.1), 0)]))).length ≤ q'.1
              simp only [List.length_append, List.length_singleton] at hlen ⊢
              omega
          · rw [hZ2, ← hFe, bnd_l, show 400 - i = (400 - (i + 1)) + 1 by omega, lvL, if_neg h0, bnd_bnd]
            refine bnd_cg (fun t1 _ => ?_)
            rw [bnd_bnd]
            rfl
        refine ab_go ok_Re_parseSum 3 rfl ?_
        show ab_Z m_Re_parseSum _ _ _ 15 [_, _, _, _, _] [_, _] _
        rw [a2]
        refine ab_br ok_Re_parseSum rfl rfl ?_ ?_
        · intro h3
          show ab_Z m_Re_parseSum _ _ _ 20 [_, _, _, _, _] [] _
          exact on (hoi.mpr (Or.inl h3))
        · intro h3
          show ab_Z m_Re_parseSum _ _ _ 16 [_, _, _, _, _] [] _
          refine ab_go ok_Re_parseSum 3 rfl ?_
          show ab_Z m_Re_parseSum _ _ _ 19 [_, _, _, _, _] [_, _] _
          rw [a2]
          refine ab_br ok_Re_parseSum rfl rfl ?_ ?_
          · intro h4
            show ab_Z m_Re_parseSum _ _ _ 20 [_, _, _, _, _] [] _
            exact on (hoi.mpr (Or.inr h4))
          · intro h4
            show ab_Z m_Re_parseSum _ _ _ 37 [_, _, _, _, _] [] _
            exact out (Decidable.byContradiction fun z => (hoi.mp z).elim h3 h4) _
theorem t_Re_parseProduct_69 {D : Nat} {dep : Int32} {u : Nat → Rs (Nat × List Ins)} (hE : ExpR u) (hu : CtL g_Re_parseUnit 69 (D + 1) fm X t K P v nm dep u) : CtL g_Re_parseProduct 69 (D + 2) fm X t K P v nm dep (lvT K oM u) := by
  intro s R Q hT hR hQ hZ
  obtain ⟨F, hF⟩ : ∃ F, F = bnd R (lvT K oM u) := ⟨_, rfl⟩
  rw [← hF]
  generalize hPo : PLw fm X s t K 69 Q F = Po
  have hposR : ∀ n, R = .inl n → n ≤ 400 := fun n h => by rw [h] at hR; exact hR.2.2.2.1
  refine ab_T_of (M := m_Re_parseProduct) rfl rfl (Nat.le_of_ble_eq_true rfl) ?_
  show ab_Z m_Re_parseProduct _ _ _ 0 [_, _, _, _, _] [] _
  refine ab_go ok_Re_parseProduct 3 rfl ?_
  show ab_Z m_Re_parseProduct _ _ _ 3 [_, _, _, _, _] [_, _, _] _
  refine ab_cl ok_Re_parseProduct rfl [_, _, _] [] rfl ⟨_, _, rfl, rfl, Or.inl ⟨_, _, rfl, rfl⟩⟩ (Nat.le_of_ble_eq_true rfl) (hu s R Q hT hR hQ hZ) ?_
  rintro _ _ ⟨rfl, s1, rfl, k1, hR1, hZ1, hq1⟩
  show ab_Z m_Re_parseProduct _ _ _ 4 [_, _, _, _, _] [] _
  refine ab_go ok_Re_parseProduct 2 rfl ?_
  show ab_Z m_Re_parseProduct _ _ _ 6 [_, _, _, _, _] [] _
  have main := lp_dn 400 (fun i => ∀ s1 Z, KS 69 s s1 → Rd s1 K (mpT Prod.fst Z) → LwZ s1 69 → (∀ q : Nat × List Ins, Z = .inl q → LwC s1 69 (Q ++ q.2) ∧ (Q ++ q.2).length ≤ q.1) → (bnd Z fun q => lvL K oM u (400 - i) q.1 q.2) = F → ab_Z m_Re_parseProduct (D + 2) (0, 0) Po 6 [some (.ref 8), some (.ref 69), some (.int dep), some (.int (nI i)), none] [] (HA fm X s1 t)) ?_ ?_
  · refine main s1 (bnd R u) k1 hR1 hZ1 (fun q hq => ⟨hq1 q hq, ?_⟩) ?_
    · obtain ⟨n, e1, e2⟩ := bnd_in hq
      have a1 := (hE n (hposR n e1)).2 q e2
      have a2 := (hQ n e1).2
      rw [List.length_append]
      omega
    · rw [hF, bnd_bnd]
      rfl
  · intro s1 Z k1 hR1 hZ1 hq1 hFe
    have hZF : Z = F := by
      rw [← hFe]
      cases Z <;> rfl
    rw [hZF] at hR1 hq1
    refine ab_go ok_Re_parseProduct 2 rfl ?_
    show ab_Z m_Re_parseProduct _ _ _ 8 [_, _, _, _, _] [_, _] _
    refine ab_go ok_Re_parseProduct 1 rfl ?_
    show ab_Z m_Re_parseProduct _ _ _ 37 [_, _, _, _, _] [] _
    have fin : Po none (HA fm X s1 t) := by
      rw [← hPo]
      exact ⟨rfl, s1, rfl, k1, hR1, hZ1, fun q hq => (hq1 q hq).1⟩
    exact ab_rV ok_Re_parseProduct rfl (fin)
  · intro i hi ih s1 Z k1 hR1 hZ1 hq1 hFe
    have hT1 := hT.k (k1.r (by decide)) (KRt.rf t)
    refine ab_go ok_Re_parseProduct 2 rfl ?_
    show ab_Z m_Re_parseProduct _ _ _ 8 [_, _, _, _, _] [_, _] _
    refine ab_br ok_Re_parseProduct rfl rfl ?_ ?_
    · intro h1
      show ab_Z m_Re_parseProduct _ _ _ 37 [_, _, _, _, _] [] _
      exact absurd h1 (lp_in (N := 400) (by decide) hi)
    · intro h1
      show ab_Z m_Re_parseProduct _ _ _ 9 [_, _, _, _, _] [] _
      refine ab_go ok_Re_parseProduct 2 rfl ?_
      show ab_Z m_Re_parseProduct _ _ _ 11 [_, _, _, _, _] [_] _
      cases hZc : Z with
      | inr e =>
        rw [hZc] at hR1 hFe hq1
        obtain ⟨a1, a2, a3, a4⟩ := hR1
        rw [a2]
        refine ab_br ok_Re_parseProduct rfl rfl ?_ ?_
        · intro h2
          show ab_Z m_Re_parseProduct _ _ _ 12 [_, _, _, _, _] [] _
          exact absurd h2 (nI_ne0 (by omega) (by omega))
        · intro h2
          show ab_Z m_Re_parseProduct _ _ _ 37 [_, _, _, _, _] [] _
          have fin : Po none (HA fm X s1 t) := by
            rw [← hPo, ← hFe]
            exact ⟨rfl, s1, rfl, k1, ⟨a1, a2, a3, a4⟩, hZ1, fun q hq => by cases hq⟩
          exact ab_rV ok_Re_parseProduct rfl (fin)
      | inl q =>
        rw [hZc] at hR1 hFe hq1
        obtain ⟨a1, a2, a3, a4⟩ := hR1
        obtain ⟨hL1, hlen⟩ := hq1 q rfl
        have hKq := hT.2.1 q.1
        have hoi := oM_i (k := K q.1) (by omega)
        rw [a3]
        refine ab_go ok_Re_parseProduct 1 rfl ?_
        show ab_Z m_Re_parseProduct _ _ _ 12 [_, _, _, _, _] [] _
        have out : oM (K q.1) = 0 → ∀ l4, ab_Z m_Re_parseProduct (D + 2) (0, 0) Po 37 [some (.ref 8), some (.ref 69), some (.int dep), some (.int (nI i)), l4] [] (HA fm X s1 t) := by
          intro h0 l4
          have fin : Po none (HA fm X s1 t) := by
            rw [← hPo, ← hFe, bnd_l, show 400 - i = (400 - (i + 1)) + 1 by omega, lvL, if_pos h0]
            exact ⟨rfl, s1, rfl, k1, ⟨a1, a2, a3, a4⟩, hZ1, fun q' hq' => by cases hq'; exact hL1⟩
          exact ab_rV ok_Re_parseProduct rfl (fin)
        have on : oM (K q.1) ≠ 0 → ab_Z m_Re_parseProduct (D + 2) (0, 0) Po 20 [some (.ref 8), some (.ref 69), some (.int dep), some (.int (nI i)), none] [] (HA fm X s1 t) := by
          intro h0
          obtain ⟨he1, he2, he3⟩ := oM_e h0
          have heat : bnd (.inl q.1 : Rs Nat) (eatT K (K q.1)) = goT q.1 := by
            rw [bnd_l]
            unfold eatT
            rw [if_pos rfl]
          have hR1' : Rd s1 K (.inl q.1) := ⟨a1, a2, a3, a4⟩
          refine ab_go ok_Re_parseProduct 5 rfl ?_
          show ab_Z m_Re_parseProduct _ _ _ 25 [_, _, _, _, _] [_, _] _
          rw [a2]
          refine ab_cl ok_Re_parseProduct rfl [_, _] [] rfl ⟨_, _, rfl, rfl, Or.inl ⟨_, _, rfl, rfl⟩⟩ (Nat.le_of_ble_eq_true rfl) (t_Re_accept (D + 1) fm X s1 t hT1 hR1' he2 he3 _ rfl) ?_
          rintro _ _ ⟨rfl, s2, rfl, k2, hR2⟩
          show ab_Z m_Re_parseProduct _ _ _ 26 [_, _, _, _, _] [_] _
          rw [heat] at hR2
          have hg := go_st (t := q.1) a4.1
          refine ab_go ok_Re_parseProduct 4 rfl ?_
          show ab_Z m_Re_parseProduct _ _ _ 30 [_, _, _, _, _] [_, _, _] _
          refine ab_cl ok_Re_parseProduct rfl [_, _, _] [] rfl ⟨_, _, rfl, rfl, Or.inl ⟨_, _, rfl, rfl⟩⟩ (Nat.le_of_ble_eq_true rfl) (hu s2 (goT q.1) (Q ++ q.2) (hT1.k k2.l.r (KRt.rf t)) hR2 (fun n hn => ⟨k2.c (by decide) hL1, by have h9 : q.1 < n := (hg.1 n hn).1; omega⟩) (k2.z (by decide) hZ1)) ?_
          rintro _ _ ⟨rfl, s3, rfl, k3, hR3, ⟨z, hz4, hz3⟩, hq3⟩
          show ab_Z m_Re_parseProduct _ _ _ 31 [_, _, _, _, _] [] _
          refine ab_go ok_Re_parseProduct 3 rfl ?_
          show ab_Z m_Re_parseProduct _ _ _ 34 [_, _, _, _, _] [_, _] _
          refine ab_cl ok_Re_parseProduct rfl [_, _] [] rfl ⟨_, _, rfl, rfl, Or.inl ⟨_, _, rfl, rfl⟩⟩ (Nat.le_of_ble_eq_true rfl) (t_La_add_69 (D + 1) fm X s3 t hz4 hz3 _) ?_
          rintro _ _ ⟨rfl, rfl⟩
          show ab_Z m_Re_parseProduct _ _ _ 35 [_, _, _, _, _] [] _
          refine ab_go ok_Re_parseProduct 2 rfl ?_
          show ab_Z m_Re_parseProduct _ _ _ 6 [_, _, _, _, _] [] _
          rw [← nI_succ]
          obtain ⟨Z2, hZ2⟩ : ∃ Z2, Z2 = bnd (goT q.1) fun t1 => bnd (u t1) fun q' => .inl (q'.1, q.2 ++ (q'.2 ++ [(oM (K q.1), 0)])) := ⟨_, rfl⟩
          have k4 := adL_k s3 69 z (-nI (K q.1))
          have e8 : ∀ j, adL s3 69 z (-nI (K q.1)) 8 j = s3 8 j := fun j => by
            unfold adL
            split
            · rw [ab_up_o (by decide), ab_up_o (by decide)]
            · rfl
          refine ih _ Z2 ((k1.tr k2.s).tr (k3.tr k4)) ?_ (adL_z hz4 hz3) (fun q2 hq2 => ?_) ?_
          · have e1 : mpT Prod.fst Z2 = mpT Prod.fst (bnd (goT q.1) u) := by
              rw [hZ2]
              cases goT q.1 with
              | inr e => rfl
              | inl t1 =>
                simp only [bnd_l]
                cases u t1 <;> rfl
            rw [e1]
            exact hR3.of (e8 1) (e8 2) (e8 3)
          · rw [hZ2] at hq2
            obtain ⟨t1, b1, b2⟩ := bnd_in hq2
            obtain ⟨q', b3, b4⟩ := bnd_in b2
            cases b4
            have c1 : q.1 < t1 ∧ t1 ≤ 400 := hg.1 t1 b1
            obtain ⟨c2, c3⟩ := hE t1 c1.2
            have c4 := c2.1 q' b3
            have c5 := c3 q' b3
            have hL3 := hq3 q' (by rw [b1, bnd_l]; exact b3)
            have hlz : z = ((Q ++ q.2) ++ q'.2).length := by
              have := hz3.symm.trans hL3.1
              have hll : ((Q ++ q.2) ++ q'.2).length ≤ 400 := by rw [List.length_append]; omega
              exact (nI_eq (by omega) (by omega)).mp this
            have hl4 : ((Q ++ q.2) ++ q'.2).length < 400 := by rw [List.length_append]; omega
            refine ⟨?_, ?_⟩
            · have := adL_c (q := (oM (K q.1), 0)) hl4 hL3
              rw [← hlz, he1] at this
              rw [show Q ++ (q'.1, q.2 ++ (q'.2 ++ [(oM (K q.1), 0)])).2 = Q ++ q.2 ++ q'.2 ++ [(oM (K q.1), 0)] from by simp [List.append_assoc]]
              exact this
            · show (Q ++ (q.2 ++ (q'.2 ++ [(oM (K q.1), 0)]))).length ≤ q'.1
              simp only [List.length_append, List.length_singleton] at hlen ⊢
              omega
          · rw [hZ2, ← hFe, bnd_l, show 400 - i = (400 - (i + 1)) + 1 by omega, lvL, if_neg h0, bnd_bnd]
            refine bnd_cg (fun t1 _ => ?_)
            rw [bnd_bnd]
            rfl
        refine ab_go ok_Re_parseProduct 3 rfl ?_
        show ab_Z m_Re_parseProduct _ _ _ 15 [_, _, _, _, _] [_, _] _
        rw [a2]
        refine ab_br ok_Re_parseProduct rfl rfl ?_ ?_
        · intro h3
          show ab_Z m_Re_parseProduct _ _ _ 20 [_, _, _, _, _] [] _
          exact on (hoi.mpr (Or.inl h3))
        · intro h3
          show ab_Z m_Re_parseProduct _ _ _ 16 [_, _, _, _, _] [] _
          refine ab_go ok_Re_parseProduct 3 rfl ?_
          show ab_Z m_Re_parseProduct _ _ _ 19 [_, _, _, _, _] [_, _] _
          rw [a2]
          refine ab_br ok_Re_parseProduct rfl rfl ?_ ?_
          · intro h4
            show ab_Z m_Re_parseProduct _ _ _ 20 [_, _, _, _, _] [] _
            exact on (hoi.mpr (Or.inr h4))
          · intro h4
            show ab_Z m_Re_parseProduct _ _ _ 37 [_, _, _, _, _] [] _
            exact out (Decidable.byContradiction fun z => (hoi.mp z).elim h3 h4) _
theorem t_Re_parseSum_69 {D : Nat} {dep : Int32} {u : Nat → Rs (Nat × List Ins)} (hE : ExpR u) (hu : CtL g_Re_parseProduct 69 (D + 1) fm X t K P v nm dep u) : CtL g_Re_parseSum 69 (D + 2) fm X t K P v nm dep (lvT K oA u) := by
  intro s R Q hT hR hQ hZ
  obtain ⟨F, hF⟩ : ∃ F, F = bnd R (lvT K oA u) := ⟨_, rfl⟩
  rw [← hF]
  generalize hPo : PLw fm X s t K 69 Q F = Po
  have hposR : ∀ n, R = .inl n → n ≤ 400 := fun n h => by rw [h] at hR; exact hR.2.2.2.1
  refine ab_T_of (M := m_Re_parseSum) rfl rfl (Nat.le_of_ble_eq_true rfl) ?_
  show ab_Z m_Re_parseSum _ _ _ 0 [_, _, _, _, _] [] _
  refine ab_go ok_Re_parseSum 3 rfl ?_
  show ab_Z m_Re_parseSum _ _ _ 3 [_, _, _, _, _] [_, _, _] _
  refine ab_cl ok_Re_parseSum rfl [_, _, _] [] rfl ⟨_, _, rfl, rfl, Or.inl ⟨_, _, rfl, rfl⟩⟩ (Nat.le_of_ble_eq_true rfl) (hu s R Q hT hR hQ hZ) ?_
  rintro _ _ ⟨rfl, s1, rfl, k1, hR1, hZ1, hq1⟩
  show ab_Z m_Re_parseSum _ _ _ 4 [_, _, _, _, _] [] _
  refine ab_go ok_Re_parseSum 2 rfl ?_
  show ab_Z m_Re_parseSum _ _ _ 6 [_, _, _, _, _] [] _
  have main := lp_dn 400 (fun i => ∀ s1 Z, KS 69 s s1 → Rd s1 K (mpT Prod.fst Z) → LwZ s1 69 → (∀ q : Nat × List Ins, Z = .inl q → LwC s1 69 (Q ++ q.2) ∧ (Q ++ q.2).length ≤ q.1) → (bnd Z fun q => lvL K oA u (400 - i) q.1 q.2) = F → ab_Z m_Re_parseSum (D + 2) (0, 0) Po 6 [some (.ref 8), some (.ref 69), some (.int dep), some (.int (nI i)), none] [] (HA fm X s1 t)) ?_ ?_
  · refine main s1 (bnd R u) k1 hR1 hZ1 (fun q hq => ⟨hq1 q hq, ?_⟩) ?_
    · obtain ⟨n, e1, e2⟩ := bnd_in hq
      have a1 := (hE n (hposR n e1)).2 q e2
      have a2 := (hQ n e1).2
      rw [List.length_append]
      omega
    · rw [hF, bnd_bnd]
      rfl
  · intro s1 Z k1 hR1 hZ1 hq1 hFe
    have hZF : Z = F := by
      rw [← hFe]
      cases Z <;> rfl
    rw [hZF] at hR1 hq1
    refine ab_go ok_Re_parseSum 2 rfl ?_
    show ab_Z m_Re_parseSum _ _ _ 8 [_, _, _, _, _] [_, _] _
    refine ab_go ok_Re_parseSum 1 rfl ?_
    show ab_Z m_Re_parseSum _ _ _ 37 [_, _, _, _, _] [] _
    have fin : Po none (HA fm X s1 t) := by
      rw [← hPo]
      exact ⟨rfl, s1, rfl, k1, hR1, hZ1, fun q hq => (hq1 q hq).1⟩
    exact ab_rV ok_Re_parseSum rfl (fin)
  · intro i hi ih s1 Z k1 hR1 hZ1 hq1 hFe
    have hT1 := hT.k (k1.r (by decide)) (KRt.rf t)
    refine ab_go ok_Re_parseSum 2 rfl ?_
    show ab_Z m_Re_parseSum _ _ _ 8 [_, _, _, _, _] [_, _] _
    refine ab_br ok_Re_parseSum rfl rfl ?_ ?_
    · intro h1
      show ab_Z m_Re_parseSum _ _ _ 37 [_, _, _, _, _] [] _
      exact absurd h1 (lp_in (N := 400) (by decide) hi)
    · intro h1
      show ab_Z m_Re_parseSum _ _ _ 9 [_, _, _, _, _] [] _
      refine ab_go ok_Re_parseSum 2 rfl ?_
      show ab_Z m_Re_parseSum _ _ _ 11 [_, _, _, _, _] [_] _
      cases hZc : Z with
      | inr e =>
        rw [hZc] at hR1 hFe hq1
        obtain ⟨a1, a2, a3, a4⟩ := hR1
        rw [a2]
        refine ab_br ok_Re_parseSum rfl rfl ?_ ?_
        · intro h2
          show ab_Z m_Re_parseSum _ _ _ 12 [_, _, _, _, _] [] _
          exact absurd h2 (nI_ne0 (by omega) (by omega))
        · intro h2
          show ab_Z m_Re_parseSum _ _ _ 37 [_, _, _, _, _] [] _
          have fin : Po none (HA fm X s1 t) := by
            rw [← hPo, ← hFe]
            exact ⟨rfl, s1, rfl, k1, ⟨a1, a2, a3, a4⟩, hZ1, fun q hq => by cases hq⟩
          exact ab_rV ok_Re_parseSum rfl (fin)
      | inl q =>
        rw [hZc] at hR1 hFe hq1
        obtain ⟨a1, a2, a3, a4⟩ := hR1
        obtain ⟨hL1, hlen⟩ := hq1 q rfl
        have hKq := hT.2.1 q.1
        have hoi := oA_i (k := K q.1) (by omega)
        rw [a3]
        refine ab_go ok_Re_parseSum 1 rfl ?_
        show ab_Z m_Re_parseSum _ _ _ 12 [_, _, _, _, _] [] _
        have out : oA (K q.1) = 0 → ∀ l4, ab_Z m_Re_parseSum (D + 2) (0, 0) Po 37 [some (.ref 8), some (.ref 69), some (.int dep), some (.int (nI i)), l4] [] (HA fm X s1 t) := by
          intro h0 l4
          have fin : Po none (HA fm X s1 t) := by
            rw [← hPo, ← hFe, bnd_l, show 400 - i = (400 - (i + 1)) + 1 by omega, lvL, if_pos h0]
            exact ⟨rfl, s1, rfl, k1, ⟨a1, a2, a3, a4⟩, hZ1, fun q' hq' => by cases hq'; exact hL1⟩
          exact ab_rV ok_Re_parseSum rfl (fin)
        have on : oA (K q.1) ≠ 0 → ab_Z m_Re_parseSum (D + 2) (0, 0) Po 20 [some (.ref 8), some (.ref 69), some (.int dep), some (.int (nI i)), none] [] (HA fm X s1 t) := by
          intro h0
          obtain ⟨he1, he2, he3⟩ := oA_e h0
          have heat : bnd (.inl q.1 : Rs Nat) (eatT K (K q.1)) = goT q.1 := by
            rw [bnd_l]
            unfold eatT
            rw [if_pos rfl]
          have hR1' : Rd s1 K (.inl q.1) := ⟨a1, a2, a3, a4⟩
          refine ab_go ok_Re_parseSum 5 rfl ?_
          show ab_Z m_Re_parseSum _ _ _ 25 [_, _, _, _, _] [_, _] _
          rw [a2]
          refine ab_cl ok_Re_parseSum rfl [_, _] [] rfl ⟨_, _, rfl, rfl, Or.inl ⟨_, _, rfl, rfl⟩⟩ (Nat.le_of_ble_eq_true rfl) (t_Re_accept (D + 1) fm X s1 t hT1 hR1' he2 he3 _ rfl) ?_
          rintro _ _ ⟨rfl, s2, rfl, k2, hR2⟩
          show ab_Z m_Re_parseSum _ _ _ 26 [_, _, _, _, _] [_] _
          rw [heat] at hR2
          have hg := go_st (t := q.1) a4.1
          refine ab_go ok_Re_parseSum 4 rfl ?_
          show ab_Z m_Re_parseSum _ _ _ 30 [_, _, _, _, _] [_, _, _] _
          refine ab_cl ok_Re_parseSum rfl [_, _, _] [] rfl ⟨_, _, rfl, rfl, Or.inl ⟨_, _, rfl, rfl⟩⟩ (Nat.le_of_ble_eq_true rfl) (hu s2 (goT q.1) (Q ++ q.2) (hT1.k k2.l.r (KRt.rf t)) hR2 (fun n hn => ⟨k2.c (by decide) hL1, by have h9 : q.1 < n := (hg.1 n hn).1; omega⟩) (k2.z (by decide) hZ1)) ?_
          rintro _ _ ⟨rfl, s3, rfl, k3, hR3, ⟨z, hz4, hz3⟩, hq3⟩
          show ab_Z m_Re_parseSum _ _ _ 31 [_, _, _, _, _] [] _
          refine ab_go ok_Re_parseSum 3 rfl ?_
          show ab_Z m_Re_parseSum _ _ _ 34 [_, _, _, _, _] [_, _] _
          refine ab_cl ok_Re_parseSum rfl [_, _] [] rfl ⟨_, _, rfl, rfl, Or.inl ⟨_, _, rfl, rfl⟩⟩ (Nat.le_of_ble_eq_true rfl) (t_La_add_69 (D + 1) fm X s3 t hz4 hz3 _) ?_
          rintro _ _ ⟨rfl, rfl⟩
          show ab_Z m_Re_parseSum _ _ _ 35 [_, _, _, _, _] [] _
          refine ab_go ok_Re_parseSum 2 rfl ?_
          show ab_Z m_Re_parseSum _ _ _ 6 [_, _, _, _, _] [] _
          rw [← nI_succ]
          obtain ⟨Z2, hZ2⟩ : ∃ Z2, Z2 = bnd (goT q.1) fun t1 => bnd (u t1) fun q' => .inl (q'.1, q.2 ++ (q'.2 ++ [(oA (K q.1), 0)])) := ⟨_, rfl⟩
          have k4 := adL_k s3 69 z (-nI (K q.1))
          have e8 : ∀ j, adL s3 69 z (-nI (K q.1)) 8 j = s3 8 j := fun j => by
            unfold adL
            split
            · rw [ab_up_o (by decide), ab_up_o (by decide)]
            · rfl
          refine ih _ Z2 ((k1.tr k2.s).tr (k3.tr k4)) ?_ (adL_z hz4 hz3) (fun q2 hq2 => ?_) ?_
          · have e1 : mpT Prod.fst Z2 = mpT Prod.fst (bnd (goT q.1) u) := by
              rw [hZ2]
              cases goT q.1 with
              | inr e => rfl
              | inl t1 =>
                simp only [bnd_l]
                cases u t1 <;> rfl
            rw [e1]
            exact hR3.of (e8 1) (e8 2) (e8 3)
          · rw [hZ2] at hq2
            obtain ⟨t1, b1, b2⟩ := bnd_in hq2
            obtain ⟨q', b3, b4⟩ := bnd_in b2
            cases b4
            have c1 : q.1 < t1 ∧ t1 ≤ 400 := hg.1 t1 b1
            obtain ⟨c2, c3⟩ := hE t1 c1.2
            have c4 := c2.1 q' b3
            have c5 := c3 q' b3
            have hL3 := hq3 q' (by rw [b1, bnd_l]; exact b3)
            have hlz : z = ((Q ++ q.2) ++ q'.2).length := by
              have := hz3.symm.trans hL3.1
              have hll : ((Q ++ q.2) ++ q'.2).length ≤ 400 := by rw [List.length_append]; omega
              exact (nI_eq (by omega) (by omega)).mp this
            have hl4 : ((Q ++ q.2) ++ q'.2).length < 400 := by rw [List.length_append]; omega
            refine ⟨?_, ?_⟩
            · have := adL_c (q := (oA (K q.1), 0)) hl4 hL3
              rw [← hlz, he1] at this
              rw [show Q ++ (q'.1, q.2 ++ (q'.2 ++ [(oA (K q.1), 0)])).2 = Q ++ q.2 ++ q'.2 ++ [(oA (K q.1), 0)] from by simp [List.append_assoc]]
              exact this
            · show (Q ++ (q.2 ++ (q'.2 ++ [(oA (K q.1), 0)]))).length ≤ q'.1
              simp only [List.length_append, List.length_singleton] at hlen ⊢
              omega
          · rw [hZ2, ← hFe, bnd_l, show 400 - i = (400 - (i + 1)) + 1 by omega, lvL, if_neg h0, bnd_bnd]
            refine bnd_cg (fun t1 _ => ?_)
            rw [bnd_bnd]
            rfl
        refine ab_go ok_Re_parseSum 3 rfl ?_
        show ab_Z m_Re_parseSum _ _ _ 15 [_, _, _, _, _] [_, _] _
        rw [a2]
        refine ab_br ok_Re_parseSum rfl rfl ?_ ?_
        · intro h3
          show ab_Z m_Re_parseSum _ _ _ 20 [_, _, _, _, _] [] _
          exact on (hoi.mpr (Or.inl h3))
        · intro h3
          show ab_Z m_Re_parseSum _ _ _ 16 [_, _, _, _, _] [] _
          refine ab_go ok_Re_parseSum 3 rfl ?_
          show ab_Z m_Re_parseSum _ _ _ 19 [_, _, _, _, _] [_, _] _
          rw [a2]
          refine ab_br ok_Re_parseSum rfl rfl ?_ ?_
          · intro h4
            show ab_Z m_Re_parseSum _ _ _ 20 [_, _, _, _, _] [] _
            exact on (hoi.mpr (Or.inr h4))
          · intro h4
            show ab_Z m_Re_parseSum _ _ _ 37 [_, _, _, _, _] [] _
            exact out (Decidable.byContradiction fun z => (hoi.mp z).elim h3 h4) _
theorem t_Re_parseProduct_73 {D : Nat} {dep : Int32} {u : Nat → Rs (Nat × List Ins)} (hE : ExpR u) (hu : CtL g_Re_parseUnit 73 (D + 1) fm X t K P v nm dep u) : CtL g_Re_parseProduct 73 (D + 2) fm X t K P v nm dep (lvT K oM u) := by
  intro s R Q hT hR hQ hZ
  obtain ⟨F, hF⟩ : ∃ F, F = bnd R (lvT K oM u) := ⟨_, rfl⟩
  rw [← hF]
  generalize hPo : PLw fm X s t K 73 Q F = Po
  have hposR : ∀ n, R = .inl n → n ≤ 400 := fun n h => by rw [h] at hR; exact hR.2.2.2.1
  refine ab_T_of (M := m_Re_parseProduct) rfl rfl (Nat.le_of_ble_eq_true rfl) ?_
  show ab_Z m_Re_parseProduct _ _ _ 0 [_, _, _, _, _] [] _
  refine ab_go ok_Re_parseProduct 3 rfl ?_
  show ab_Z m_Re_parseProduct _ _ _ 3 [_, _, _, _, _] [_, _, _] _
  refine ab_cl ok_Re_parseProduct rfl [_, _, _] [] rfl ⟨_, _, rfl, rfl, Or.inl ⟨_, _, rfl, rfl⟩⟩ (Nat.le_of_ble_eq_true rfl) (hu s R Q hT hR hQ hZ) ?_
  rintro _ _ ⟨rfl, s1, rfl, k1, hR1, hZ1, hq1⟩
  show ab_Z m_Re_parseProduct _ _ _ 4 [_, _, _, _, _] [] _
  refine ab_go ok_Re_parseProduct 2 rfl ?_
  show ab_Z m_Re_parseProduct _ _ _ 6 [_, _, _, _, _] [] _
  have main := lp_dn 400 (fun i => ∀ s1 Z, KS 73 s s1 → Rd s1 K (mpT Prod.fst Z) → LwZ s1 73 → (∀ q : Nat × List Ins, Z = .inl q → LwC s1 73 (Q ++ q.2) ∧ (Q ++ q.2).length ≤ q.1) → (bnd Z fun q => lvL K oM u (400 - i) q.1 q.2) = F → ab_Z m_Re_parseProduct (D + 2) (0, 0) Po 6 [some (.ref 8), some (.ref 73), some (.int dep), some (.int (nI i)), none] [] (HA fm X s1 t)) ?_ ?_
  · refine main s1 (bnd R u) k1 hR1 hZ1 (fun q hq => ⟨hq1 q hq, ?_⟩) ?_
    · obtain ⟨n, e1, e2⟩ := bnd_in hq
      have a1 := (hE n (hposR n e1)).2 q e2
      have a2 := (hQ n e1).2
      rw [List.length_append]
      omega
    · rw [hF, bnd_bnd]
      rfl
  · intro s1 Z k1 hR1 hZ1 hq1 hFe
    have hZF : Z = F := by
      rw [← hFe]
      cases Z <;> rfl
    rw [hZF] at hR1 hq1
    refine ab_go ok_Re_parseProduct 2 rfl ?_
    show ab_Z m_Re_parseProduct _ _ _ 8 [_, _, _, _, _] [_, _] _
    refine ab_go ok_Re_parseProduct 1 rfl ?_
    show ab_Z m_Re_parseProduct _ _ _ 37 [_, _, _, _, _] [] _
    have fin : Po none (HA fm X s1 t) := by
      rw [← hPo]
      exact ⟨rfl, s1, rfl, k1, hR1, hZ1, fun q hq => (hq1 q hq).1⟩
    exact ab_rV ok_Re_parseProduct rfl (fin)
  · intro i hi ih s1 Z k1 hR1 hZ1 hq1 hFe
    have hT1 := hT.k (k1.r (by decide)) (KRt.rf t)
    refine ab_go ok_Re_parseProduct 2 rfl ?_
    show ab_Z m_Re_parseProduct _ _ _ 8 [_, _, _, _, _] [_, _] _
    refine ab_br ok_Re_parseProduct rfl rfl ?_ ?_
    · intro h1
      show ab_Z m_Re_parseProduct _ _ _ 37 [_, _, _, _, _] [] _
      exact absurd h1 (lp_in (N := 400) (by decide) hi)
    · intro h1
      show ab_Z m_Re_parseProduct _ _ _ 9 [_, _, _, _, _] [] _
      refine ab_go ok_Re_parseProduct 2 rfl ?_
      show ab_Z m_Re_parseProduct _ _ _ 11 [_, _, _, _, _] [_] _
      cases hZc : Z with
      | inr e =>
        rw [hZc] at hR1 hFe hq1
        obtain ⟨a1, a2, a3, a4⟩ := hR1
        rw [a2]
        refine ab_br ok_Re_parseProduct rfl rfl ?_ ?_
        · intro h2
          show ab_Z m_Re_parseProduct _ _ _ 12 [_, _, _, _, _] [] _
          exact absurd h2 (nI_ne0 (by omega) (by omega))
        · intro h2
          show ab_Z m_Re_parseProduct _ _ _ 37 [_, _, _, _, _] [] _
          have fin : Po none (HA fm X s1 t) := by
            rw [← hPo, ← hFe]
            exact ⟨rfl, s1, rfl, k1, ⟨a1, a2, a3, a4⟩, hZ1, fun q hq => by cases hq⟩
          exact ab_rV ok_Re_parseProduct rfl (fin)
      | inl q =>
        rw [hZc] at hR1 hFe hq1
        obtain ⟨a1, a2, a3, a4⟩ := hR1
        obtain ⟨hL1, hlen⟩ := hq1 q rfl
        have hKq := hT.2.1 q.1
        have hoi := oM_i (k := K q.1) (by omega)
        rw [a3]
        refine ab_go ok_Re_parseProduct 1 rfl ?_
        show ab_Z m_Re_parseProduct _ _ _ 12 [_, _, _, _, _] [] _
        have out : oM (K q.1) = 0 → ∀ l4, ab_Z m_Re_parseProduct (D + 2) (0, 0) Po 37 [some (.ref 8), some (.ref 73), some (.int dep), some (.int (nI i)), l4] [] (HA fm X s1 t) := by
          intro h0 l4
          have fin : Po none (HA fm X s1 t) := by
            rw [← hPo, ← hFe, bnd_l, show 400 - i = (400 - (i + 1)) + 1 by omega, lvL, if_pos h0]
            exact ⟨rfl, s1, rfl, k1, ⟨a1, a2, a3, a4⟩, hZ1, fun q' hq' => by cases hq'; exact hL1⟩
          exact ab_rV ok_Re_parseProduct rfl (fin)
        have on : oM (K q.1) ≠ 0 → ab_Z m_Re_parseProduct (D + 2) (0, 0) Po 20 [some (.ref 8), some (.ref 73), some (.int dep), some (.int (nI i)), none] [] (HA fm X s1 t) := by
          intro h0
          obtain ⟨he1, he2, he3⟩ := oM_e h0
          have heat : bnd (.inl q.1 : Rs Nat) (eatT K (K q.1)) = goT q.1 := by
            rw [bnd_l]
            unfold eatT
            rw [if_pos rfl]
          have hR1' : Rd s1 K (.inl q.1) := ⟨a1, a2, a3, a4⟩
          refine ab_go ok_Re_parseProduct 5 rfl ?_
          show ab_Z m_Re_parseProduct _ _ _ 25 [_, _, _, _, _] [_, _] _
          rw [a2]
          refine ab_cl ok_Re_parseProduct rfl [_, _] [] rfl ⟨_, _, rfl, rfl, Or.inl ⟨_, _, rfl, rfl⟩⟩ (Nat.le_of_ble_eq_true rfl) (t_Re_accept (D + 1) fm X s1 t hT1 hR1' he2 he3 _ rfl) ?_
          rintro _ _ ⟨rfl, s2, rfl, k2, hR2⟩
          show ab_Z m_Re_parseProduct _ _ _ 26 [_, _, _, _, _] [_] _
          rw [heat] at hR2
          have hg := go_st (t := q.1) a4.1
          refine ab_go ok_Re_parseProduct 4 rfl ?_
          show ab_Z m_Re_parseProduct _ _ _ 30 [_, _, _, _, _] [_, _, _] _
          refine ab_cl ok_Re_parseProduct rfl [_, _, _] [] rfl ⟨_, _, rfl, rfl, Or.inl ⟨_, _, rfl, rfl⟩⟩ (Nat.le_of_ble_eq_true rfl) (hu s2 (goT q.1) (Q ++ q.2) (hT1.k k2.l.r (KRt.rf t)) hR2 (fun n hn => ⟨k2.c (by decide) hL1, by have h9 : q.1 < n := (hg.1 n hn).1; omega⟩) (k2.z (by decide) hZ1)) ?_
          rintro _ _ ⟨rfl, s3, rfl, k3, hR3, ⟨z, hz4, hz3⟩, hq3⟩
          show ab_Z m_Re_parseProduct _ _ _ 31 [_, _, _, _, _] [] _
          refine ab_go ok_Re_parseProduct 3 rfl ?_
          show ab_Z m_Re_parseProduct _ _ _ 34 [_, _, _, _, _] [_, _] _
          refine ab_cl ok_Re_parseProduct rfl [_, _] [] rfl ⟨_, _, rfl, rfl, Or.inl ⟨_, _, rfl, rfl⟩⟩ (Nat.le_of_ble_eq_true rfl) (t_La_add_73 (D + 1) fm X s3 t hz4 hz3 _) ?_
          rintro _ _ ⟨rfl, rfl⟩
          show ab_Z m_Re_parseProduct _ _ _ 35 [_, _, _, _, _] [] _
          refine ab_go ok_Re_parseProduct 2 rfl ?_
          show ab_Z m_Re_parseProduct _ _ _ 6 [_, _, _, _, _] [] _
          rw [← nI_succ]
          obtain ⟨Z2, hZ2⟩ : ∃ Z2, Z2 = bnd (goT q.1) fun t1 => bnd (u t1) fun q' => .inl (q'.1, q.2 ++ (q'.2 ++ [(oM (K q.1), 0)])) := ⟨_, rfl⟩
          have k4 := adL_k s3 73 z (-nI (K q.1))
          have e8 : ∀ j, adL s3 73 z (-nI (K q.1)) 8 j = s3 8 j := fun j => by
            unfold adL
            split
            · rw [ab_up_o (by decide), ab_up_o (by decide)]
            · rfl
          refine ih _ Z2 ((k1.tr k2.s).tr (k3.tr k4)) ?_ (adL_z hz4 hz3) (fun q2 hq2 => ?_) ?_
          · have e1 : mpT Prod.fst Z2 = mpT Prod.fst (bnd (goT q.1) u) := by
              rw [hZ2]
              cases goT q.1 with
              | inr e => rfl
              | inl t1 =>
                simp only [bnd_l]
                cases u t1 <;> rfl
            rw [e1]
            exact hR3.of (e8 1) (e8 2) (e8 3)
          · rw [hZ2] at hq2
            obtain ⟨t1, b1, b2⟩ := bnd_in hq2
            obtain ⟨q', b3, b4⟩ := bnd_in b2
            cases b4
            have c1 : q.1 < t1 ∧ t1 ≤ 400 := hg.1 t1 b1
            obtain ⟨c2, c3⟩ := hE t1 c1.2
            have c4 := c2.1 q' b3
            have c5 := c3 q' b3
            have hL3 := hq3 q' (by rw [b1, bnd_l]; exact b3)
            have hlz : z = ((Q ++ q.2) ++ q'.2).length := by
              have := hz3.symm.trans hL3.1
              have hll : ((Q ++ q.2) ++ q'.2).length ≤ 400 := by rw [List.length_append]; omega
              exact (nI_eq (by omega) (by omega)).mp this
            have hl4 : ((Q ++ q.2) ++ q'.2).length < 400 := by rw [List.length_append]; omega
            refine ⟨?_, ?_⟩
            · have := adL_c (q := (oM (K q.1), 0)) hl4 hL3
              rw [← hlz, he1] at this
              rw [show Q ++ (q'.1, q.2 ++ (q'.2 ++ [(oM (K q.1), 0)])).2 = Q ++ q.2 ++ q'.2 ++ [(oM (K q.1), 0)] from by simp [List.append_assoc]]
              exact this
            · show (Q ++ (q.2 ++ (q'.2 ++ [(oM (K q.1), 0)]))).length ≤ q'.1
              simp only [List.length_append, List.length_singleton] at hlen ⊢
              omega
          · rw [hZ2, ← hFe, bnd_l, show 400 - i = (400 - (i + 1)) + 1 by omega, lvL, if_neg h0, bnd_bnd]
            refine bnd_cg (fun t1 _ => ?_)
            rw [bnd_bnd]
            rfl
        refine ab_go ok_Re_parseProduct 3 rfl ?_
        show ab_Z m_Re_parseProduct _ _ _ 15 [_, _, _, _, _] [_, _] _
        rw [a2]
        refine ab_br ok_Re_parseProduct rfl rfl ?_ ?_
        · intro h3
          show ab_Z m_Re_parseProduct _ _ _ 20 [_, _, _, _, _] [] _
          exact on (hoi.mpr (Or.inl h3))
        · intro h3
          show ab_Z m_Re_parseProduct _ _ _ 16 [_, _, _, _, _] [] _
          refine ab_go ok_Re_parseProduct 3 rfl ?_
          show ab_Z m_Re_parseProduct _ _ _ 19 [_, _, _, _, _] [_, _] _
          rw [a2]
          refine ab_br ok_Re_parseProduct rfl rfl ?_ ?_
          · intro h4
            show ab_Z m_Re_parseProduct _ _ _ 20 [_, _, _, _, _] [] _
            exact on (hoi.mpr (Or.inr h4))
          · intro h4
            show ab_Z m_Re_parseProduct _ _ _ 37 [_, _, _, _, _] [] _
            exact out (Decidable.byContradiction fun z => (hoi.mp z).elim h3 h4) _
theorem t_Re_parseSum_73 {D : Nat} {dep : Int32} {u : Nat → Rs (Nat × List Ins)} (hE : ExpR u) (hu : CtL g_Re_parseProduct 73 (D + 1) fm X t K P v nm dep u) : CtL g_Re_parseSum 73 (D + 2) fm X t K P v nm dep (lvT K oA u) := by
  intro s R Q hT hR hQ hZ
  obtain ⟨F, hF⟩ : ∃ F, F = bnd R (lvT K oA u) := ⟨_, rfl⟩
  rw [← hF]
  generalize hPo : PLw fm X s t K 73 Q F = Po
  have hposR : ∀ n, R = .inl n → n ≤ 400 := fun n h => by rw [h] at hR; exact hR.2.2.2.1
  refine ab_T_of (M := m_Re_parseSum) rfl rfl (Nat.le_of_ble_eq_true rfl) ?_
  show ab_Z m_Re_parseSum _ _ _ 0 [_, _, _, _, _] [] _
  refine ab_go ok_Re_parseSum 3 rfl ?_
  show ab_Z m_Re_parseSum _ _ _ 3 [_, _, _, _, _] [_, _, _] _
  refine ab_cl ok_Re_parseSum rfl [_, _, _] [] rfl ⟨_, _, rfl, rfl, Or.inl ⟨_, _, rfl, rfl⟩⟩ (Nat.le_of_ble_eq_true rfl) (hu s R Q hT hR hQ hZ) ?_
  rintro _ _ ⟨rfl, s1, rfl, k1, hR1, hZ1, hq1⟩
  show ab_Z m_Re_parseSum _ _ _ 4 [_, _, _, _, _] [] _
  refine ab_go ok_Re_parseSum 2 rfl ?_
  show ab_Z m_Re_parseSum _ _ _ 6 [_, _, _, _, _] [] _
  have main := lp_dn 400 (fun i => ∀ s1 Z, KS 73 s s1 → Rd s1 K (mpT Prod.fst Z) → LwZ s1 73 → (∀ q : Nat × List Ins, Z = .inl q → LwC s1 73 (Q ++ q.2) ∧ (Q ++ q.2).length ≤ q.1) → (bnd Z fun q => lvL K oA u (400 - i) q.1 q.2) = F → ab_Z m_Re_parseSum (D + 2) (0, 0) Po 6 [some (.ref 8), some (.ref 73), some (.int dep), some (.int (nI i)), none] [] (HA fm X s1 t)) ?_ ?_
  · refine main s1 (bnd R u) k1 hR1 hZ1 (fun q hq => ⟨hq1 q hq, ?_⟩) ?_
    · obtain ⟨n, e1, e2⟩ := bnd_in hq
      have a1 := (hE n (hposR n e1)).2 q e2
      have a2 := (hQ n e1).2
      rw [List.length_append]
      omega
    · rw [hF, bnd_bnd]
      rfl
  · intro s1 Z k1 hR1 hZ1 hq1 hFe
    have hZF : Z = F := by
      rw [← hFe]
      cases Z <;> rfl
    rw [hZF] at hR1 hq1
    refine ab_go ok_Re_parseSum 2 rfl ?_
    show ab_Z m_Re_parseSum _ _ _ 8 [_, _, _, _, _] [_, _] _
    refine ab_go ok_Re_parseSum 1 rfl ?_
    show ab_Z m_Re_parseSum _ _ _ 37 [_, _, _, _, _] [] _
    have fin : Po none (HA fm X s1 t) := by
      rw [← hPo]
      exact ⟨rfl, s1, rfl, k1, hR1, hZ1, fun q hq => (hq1 q hq).1⟩
    exact ab_rV ok_Re_parseSum rfl (fin)
  · intro i hi ih s1 Z k1 hR1 hZ1 hq1 hFe
    have hT1 := hT.k (k1.r (by decide)) (KRt.rf t)
    refine ab_go ok_Re_parseSum 2 rfl ?_
    show ab_Z m_Re_parseSum _ _ _ 8 [_, _, _, _, _] [_, _] _
    refine ab_br ok_Re_parseSum rfl rfl ?_ ?_
    · intro h1
      show ab_Z m_Re_parseSum _ _ _ 37 [_, _, _, _, _] [] _
      exact absurd h1 (lp_in (N := 400) (by decide) hi)
    · intro h1
      show ab_Z m_Re_parseSum _ _ _ 9 [_, _, _, _, _] [] _
      refine ab_go ok_Re_parseSum 2 rfl ?_
      show ab_Z m_Re_parseSum _ _ _ 11 [_, _, _, _, _] [_] _
      cases hZc : Z with
      | inr e =>
        rw [hZc] at hR1 hFe hq1
        obtain ⟨a1, a2, a3, a4⟩ := hR1
        rw [a2]
        refine ab_br ok_Re_parseSum rfl rfl ?_ ?_
        · intro h2
          show ab_Z m_Re_parseSum _ _ _ 12 [_, _, _, _, _] [] _
          exact absurd h2 (nI_ne0 (by omega) (by omega))
        · intro h2
          show ab_Z m_Re_parseSum _ _ _ 37 [_, _, _, _, _] [] _
          have fin : Po none (HA fm X s1 t) := by
            rw [← hPo, ← hFe]
            exact ⟨rfl, s1, rfl, k1, ⟨a1, a2, a3, a4⟩, hZ1, fun q hq => by cases hq⟩
          exact ab_rV ok_Re_parseSum rfl (fin)
      | inl q =>
        rw [hZc] at hR1 hFe hq1
        obtain ⟨a1, a2, a3, a4⟩ := hR1
        obtain ⟨hL1, hlen⟩ := hq1 q rfl
        have hKq := hT.2.1 q.1
        have hoi := oA_i (k := K q.1) (by omega)
        rw [a3]
        refine ab_go ok_Re_parseSum 1 rfl ?_
        show ab_Z m_Re_parseSum _ _ _ 12 [_, _, _, _, _] [] _
        have out : oA (K q.1) = 0 → ∀ l4, ab_Z m_Re_parseSum (D + 2) (0, 0) Po 37 [some (.ref 8), some (.ref 73), some (.int dep), some (.int (nI i)), l4] [] (HA fm X s1 t) := by
          intro h0 l4
          have fin : Po none (HA fm X s1 t) := by
            rw [← hPo, ← hFe, bnd_l, show 400 - i = (400 - (i + 1)) + 1 by omega, lvL, if_pos h0]
            exact ⟨rfl, s1, rfl, k1, ⟨a1, a2, a3, a4⟩, hZ1, fun q' hq' => by cases hq'; exact hL1⟩
          exact ab_rV ok_Re_parseSum rfl (fin)
        have on : oA (K q.1) ≠ 0 → ab_Z m_Re_parseSum (D + 2) (0, 0) Po 20 [some (.ref 8), some (.ref 73), some (.int dep), some (.int (nI i)), none] [] (HA fm X s1 t) := by
          intro h0
          obtain ⟨he1, he2, he3⟩ := oA_e h0
          have heat : bnd (.inl q.1 : Rs Nat) (eatT K (K q.1)) = goT q.1 := by
            rw [bnd_l]
            unfold eatT
            rw [if_pos rfl]
          have hR1' : Rd s1 K (.inl q.1) := ⟨a1, a2, a3, a4⟩
          refine ab_go ok_Re_parseSum 5 rfl ?_
          show ab_Z m_Re_parseSum _ _ _ 25 [_, _, _, _, _] [_, _] _
          rw [a2]
          refine ab_cl ok_Re_parseSum rfl [_, _] [] rfl ⟨_, _, rfl, rfl, Or.inl ⟨_, _, rfl, rfl⟩⟩ (Nat.le_of_ble_eq_true rfl) (t_Re_accept (D + 1) fm X s1 t hT1 hR1' he2 he3 _ rfl) ?_
          rintro _ _ ⟨rfl, s2, rfl, k2, hR2⟩
          show ab_Z m_Re_parseSum _ _ _ 26 [_, _, _, _, _] [_] _
          rw [heat] at hR2
          have hg := go_st (t := q.1) a4.1
          refine ab_go ok_Re_parseSum 4 rfl ?_
          show ab_Z m_Re_parseSum _ _ _ 30 [_, _, _, _, _] [_, _, _] _
          refine ab_cl ok_Re_parseSum rfl [_, _, _] [] rfl ⟨_, _, rfl, rfl, Or.inl ⟨_, _, rfl, rfl⟩⟩ (Nat.le_of_ble_eq_true rfl) (hu s2 (goT q.1) (Q ++ q.2) (hT1.k k2.l.r (KRt.rf t)) hR2 (fun n hn => ⟨k2.c (by decide) hL1, by have h9 : q.1 < n := (hg.1 n hn).1; omega⟩) (k2.z (by decide) hZ1)) ?_
          rintro _ _ ⟨rfl, s3, rfl, k3, hR3, ⟨z, hz4, hz3⟩, hq3⟩
          show ab_Z m_Re_parseSum _ _ _ 31 [_, _, _, _, _] [] _
          refine ab_go ok_Re_parseSum 3 rfl ?_
          show ab_Z m_Re_parseSum _ _ _ 34 [_, _, _, _, _] [_, _] _
          refine ab_cl ok_Re_parseSum rfl [_, _] [] rfl ⟨_, _, rfl, rfl, Or.inl ⟨_, _, rfl, rfl⟩⟩ (Nat.le_of_ble_eq_true rfl) (t_La_add_73 (D + 1) fm X s3 t hz4 hz3 _) ?_
          rintro _ _ ⟨rfl, rfl⟩
          show ab_Z m_Re_parseSum _ _ _ 35 [_, _, _, _, _] [] _
          refine ab_go ok_Re_parseSum 2 rfl ?_
          show ab_Z m_Re_parseSum _ _ _ 6 [_, _, _, _, _] [] _
          rw [← nI_succ]
          obtain ⟨Z2, hZ2⟩ : ∃ Z2, Z2 = bnd (goT q.1) fun t1 => bnd (u t1) fun q' => .inl (q'.1, q.2 ++ (q'.2 ++ [(oA (K q.1), 0)])) := ⟨_, rfl⟩
          have k4 := adL_k s3 73 z (-nI (K q.1))
          have e8 : ∀ j, adL s3 73 z (-nI (K q.1)) 8 j = s3 8 j := fun j => by
            unfold adL
            split
            · rw [ab_up_o (by decide), ab_up_o (by decide)]
            · rfl
          refine ih _ Z2 ((k1.tr k2.s).tr (k3.tr k4)) ?_ (adL_z hz4 hz3) (fun q2 hq2 => ?_) ?_
          · have e1 : mpT Prod.fst Z2 = mpT Prod.fst (bnd (goT q.1) u) := by
              rw [hZ2]
              cases goT q.1 with
              | inr e => rfl
              | inl t1 =>
                simp only [bnd_l]
                cases u t1 <;> rfl
            rw [e1]
            exact hR3.of (e8 1) (e8 2) (e8 3)
          · rw [hZ2] at hq2
            obtain ⟨t1, b1, b2⟩ := bnd_in hq2
            obtain ⟨q', b3, b4⟩ := bnd_in b2
            cases b4
            have c1 : q.1 < t1 ∧ t1 ≤ 400 := hg.1 t1 b1
            obtain ⟨c2, c3⟩ := hE t1 c1.2
            have c4 := c2.1 q' b3
            have c5 := c3 q' b3
            have hL3 := hq3 q' (by rw [b1, bnd_l]; exact b3)
            have hlz : z = ((Q ++ q.2) ++ q'.2).length := by
              have := hz3.symm.trans hL3.1
              have hll : ((Q ++ q.2) ++ q'.2).length ≤ 400 := by rw [List.length_append]; omega
              exact (nI_eq (by omega) (by omega)).mp this
            have hl4 : ((Q ++ q.2) ++ q'.2).length < 400 := by rw [List.length_append]; omega
            refine ⟨?_, ?_⟩
            · have := adL_c (q := (oA (K q.1), 0)) hl4 hL3
              rw [← hlz, he1] at this
              rw [show Q ++ (q'.1, q.2 ++ (q'.2 ++ [(oA (K q.1), 0)])).2 = Q ++ q.2 ++ q'.2 ++ [(oA (K q.1), 0)] from by simp [List.append_assoc]]
              exact this
            · show (Q ++ (q.2 ++ (q'.2 ++ [(oA (K q.1), 0)]))).length ≤ q'.1
              simp only [List.length_append, List.length_singleton] at hlen ⊢
              omega
          · rw [hZ2, ← hFe, bnd_l, show 400 - i = (400 - (i + 1)) + 1 by omega, lvL, if_neg h0, bnd_bnd]
            refine bnd_cg (fun t1 _ => ?_)
            rw [bnd_bnd]
            rfl
        refine ab_go ok_Re_parseSum 3 rfl ?_
        show ab_Z m_Re_parseSum _ _ _ 15 [_, _, _, _, _] [_, _] _
        rw [a2]
        refine ab_br ok_Re_parseSum rfl rfl ?_ ?_
        · intro h3
          show ab_Z m_Re_parseSum _ _ _ 20 [_, _, _, _, _] [] _
          exact on (hoi.mpr (Or.inl h3))
        · intro h3
          show ab_Z m_Re_parseSum _ _ _ 16 [_, _, _, _, _] [] _
          refine ab_go ok_Re_parseSum 3 rfl ?_
          show ab_Z m_Re_parseSum _ _ _ 19 [_, _, _, _, _] [_, _] _
          rw [a2]
          refine ab_br ok_Re_parseSum rfl rfl ?_ ?_
          · intro h4
            show ab_Z m_Re_parseSum _ _ _ 20 [_, _, _, _, _] [] _
            exact on (hoi.mpr (Or.inr h4))
          · intro h4
            show ab_Z m_Re_parseSum _ _ _ 37 [_, _, _, _, _] [] _
            exact out (Decidable.byContradiction fun z => (hoi.mp z).elim h3 h4) _
theorem t_Re_parseProduct_77 {D : Nat} {dep : Int32} {u : Nat → Rs (Nat × List Ins)} (hE : ExpR u) (hu : CtL g_Re_parseUnit 77 (D + 1) fm X t K P v nm dep u) : CtL g_Re_parseProduct 77 (D + 2) fm X t K P v nm dep (lvT K oM u) := by
  intro s R Q hT hR hQ hZ
  obtain ⟨F, hF⟩ : ∃ F, F = bnd R (lvT K oM u) := ⟨_, rfl⟩
  rw [← hF]
  generalize hPo : PLw fm X s t K 77 Q F = Po
  have hposR : ∀ n, R = .inl n → n ≤ 400 := fun n h => by rw [h] at hR; exact hR.2.2.2.1
  refine ab_T_of (M := m_Re_parseProduct) rfl rfl (Nat.le_of_ble_eq_true rfl) ?_
  show ab_Z m_Re_parseProduct _ _ _ 0 [_, _, _, _, _] [] _
  refine ab_go ok_Re_parseProduct 3 rfl ?_
  show ab_Z m_Re_parseProduct _ _ _ 3 [_, _, _, _, _] [_, _, _] _
  refine ab_cl ok_Re_parseProduct rfl [_, _, _] [] rfl ⟨_, _, rfl, rfl, Or.inl ⟨_, _, rfl, rfl⟩⟩ (Nat.le_of_ble_eq_true rfl) (hu s R Q hT hR hQ hZ) ?_
  rintro _ _ ⟨rfl, s1, rfl, k1, hR1, hZ1, hq1⟩
  show ab_Z m_Re_parseProduct _ _ _ 4 [_, _, _, _, _] [] _
  refine ab_go ok_Re_parseProduct 2 rfl ?_
  show ab_Z m_Re_parseProduct _ _ _ 6 [_, _, _, _, _] [] _
  have main := lp_dn 400 (fun i => ∀ s1 Z, KS 77 s s1 → Rd s1 K (mpT Prod.fst Z) → LwZ s1 77 → (∀ q : Nat × List Ins, Z = .inl q → LwC s1 77 (Q ++ q.2) ∧ (Q ++ q.2).length ≤ q.1) → (bnd Z fun q => lvL K oM u (400 - i) q.1 q.2) = F → ab_Z m_Re_parseProduct (D + 2) (0, 0) Po 6 [some (.ref 8), some (.ref 77), some (.int dep), some (.int (nI i)), none] [] (HA fm X s1 t)) ?_ ?_
  · refine main s1 (bnd R u) k1 hR1 hZ1 (fun q hq => ⟨hq1 q hq, ?_⟩) ?_
    · obtain ⟨n, e1, e2⟩ := bnd_in hq
      have a1 := (hE n (hposR n e1)).2 q e2
      have a2 := (hQ n e1).2
      rw [List.length_append]
      omega
    · rw [hF, bnd_bnd]
      rfl
  · intro s1 Z k1 hR1 hZ1 hq1 hFe
    have hZF : Z = F := by
      rw [← hFe]
      cases Z <;> rfl
    rw [hZF] at hR1 hq1
    refine ab_go ok_Re_parseProduct 2 rfl ?_
    show ab_Z m_Re_parseProduct _ _ _ 8 [_, _, _, _, _] [_, _] _
    refine ab_go ok_Re_parseProduct 1 rfl ?_
    show ab_Z m_Re_parseProduct _ _ _ 37 [_, _, _, _, _] [] _
    have fin : Po none (HA fm X s1 t) := by
      rw [← hPo]
      exact ⟨rfl, s1, rfl, k1, hR1, hZ1, fun q hq => (hq1 q hq).1⟩
    exact ab_rV ok_Re_parseProduct rfl (fin)
  · intro i hi ih s1 Z k1 hR1 hZ1 hq1 hFe
    have hT1 := hT.k (k1.r (by decide)) (KRt.rf t)
    refine ab_go ok_Re_parseProduct 2 rfl ?_
    show ab_Z m_Re_parseProduct _ _ _ 8 [_, _, _, _, _] [_, _] _
    refine ab_br ok_Re_parseProduct rfl rfl ?_ ?_
    · intro h1
      show ab_Z m_Re_parseProduct _ _ _ 37 [_, _, _, _, _] [] _
      exact absurd h1 (lp_in (N := 400) (by decide) hi)
    · intro h1
      show ab_Z m_Re_parseProduct _ _ _ 9 [_, _, _, _, _] [] _
      refine ab_go ok_Re_parseProduct 2 rfl ?_
      show ab_Z m_Re_parseProduct _ _ _ 11 [_, _, _, _, _] [_] _
      cases hZc : Z with
      | inr e =>
        rw [hZc] at hR1 hFe hq1
        obtain ⟨a1, a2, a3, a4⟩ := hR1
        rw [a2]
        refine ab_br ok_Re_parseProduct rfl rfl ?_ ?_
        · intro h2
          show ab_Z m_Re_parseProduct _ _ _ 12 [_, _, _, _, _] [] _
          exact absurd h2 (nI_ne0 (by omega) (by omega))
        · intro h2
          show ab_Z m_Re_parseProduct _ _ _ 37 [_, _, _, _, _] [] _
          have fin : Po none (HA fm X s1 t) := by
            rw [← hPo, ← hFe]
            exact ⟨rfl, s1, rfl, k1, ⟨a1, a2, a3, a4⟩, hZ1, fun q hq => by cases hq⟩
          exact ab_rV ok_Re_parseProduct rfl (fin)
      | inl q =>
        rw [hZc] at hR1 hFe hq1
        obtain ⟨a1, a2, a3, a4⟩ := hR1
        obtain ⟨hL1, hlen⟩ := hq1 q rfl
        have hKq := hT.2.1 q.1
        have hoi := oM_i (k := K q.1) (by omega)
        rw [a3]
        refine ab_go ok_Re_parseProduct 1 rfl ?_
        show ab_Z m_Re_parseProduct _ _ _ 12 [_, _, _, _, _] [] _
        have out : oM (K q.1) = 0 → ∀ l4, ab_Z m_Re_parseProduct (D + 2) (0, 0) Po 37 [some (.ref 8), some (.ref 77), some (.int dep), some (.int (nI i)), l4] [] (HA fm X s1 t) := by
          intro h0 l4
          have fin : Po none (HA fm X s1 t) := by
            rw [← hPo, ← hFe, bnd_l, show 400 - i = (400 - (i + 1)) + 1 by omega, lvL, if_pos h0]
            exact ⟨rfl, s1, rfl, k1, ⟨a1, a2, a3, a4⟩, hZ1, fun q' hq' => by cases hq'; exact hL1⟩
          exact ab_rV ok_Re_parseProduct rfl (fin)
        have on : oM (K q.1) ≠ 0 → ab_Z m_Re_parseProduct (D + 2) (0, 0) Po 20 [some (.ref 8), some (.ref 77), some (.int dep), some (.int (nI i)), none] [] (HA fm X s1 t) := by
          intro h0
          obtain ⟨he1, he2, he3⟩ := oM_e h0
          have heat : bnd (.inl q.1 : Rs Nat) (eatT K (K q.1)) = goT q.1 := by
            rw [bnd_l]
            unfold eatT
            rw [if_pos rfl]
          have hR1' : Rd s1 K (.inl q.1) := ⟨a1, a2, a3, a4⟩
          refine ab_go ok_Re_parseProduct 5 rfl ?_
          show ab_Z m_Re_parseProduct _ _ _ 25 [_, _, _, _, _] [_, _] _
          rw [a2]
          refine ab_cl ok_Re_parseProduct rfl [_, _] [] rfl ⟨_, _, rfl, rfl, Or.inl ⟨_, _, rfl, rfl⟩⟩ (Nat.le_of_ble_eq_true rfl) (t_Re_accept (D + 1) fm X s1 t hT1 hR1' he2 he3 _ rfl) ?_
          rintro _ _ ⟨rfl, s2, rfl, k2, hR2⟩
          show ab_Z m_Re_parseProduct _ _ _ 26 [_, _, _, _, _] [_] _
          rw [heat] at hR2
          have hg := go_st (t := q.1) a4.1
          refine ab_go ok_Re_parseProduct 4 rfl ?_
          show ab_Z m_Re_parseProduct _ _ _ 30 [_, _, _, _, _] [_, _, _] _
          refine ab_cl ok_Re_parseProduct rfl [_, _, _] [] rfl ⟨_, _, rfl, rfl, Or.inl ⟨_, _, rfl, rfl⟩⟩ (Nat.le_of_ble_eq_true rfl) (hu s2 (goT q.1) (Q ++ q.2) (hT1.k k2.l.r (KRt.rf t)) hR2 (fun n hn => ⟨k2.c (by decide) hL1, by have h9 : q.1 < n := (hg.1 n hn).1; omega⟩) (k2.z (by decide) hZ1)) ?_
          rintro _ _ ⟨rfl, s3, rfl, k3, hR3, ⟨z, hz4, hz3⟩, hq3⟩
          show ab_Z m_Re_parseProduct _ _ _ 31 [_, _, _, _, _] [] _
          refine ab_go ok_Re_parseProduct 3 rfl ?_
          show ab_Z m_Re_parseProduct _ _ _ 34 [_, _, _, _, _] [_, _] _
          refine ab_cl ok_Re_parseProduct rfl [_, _] [] rfl ⟨_, _, rfl, rfl, Or.inl ⟨_, _, rfl, rfl⟩⟩ (Nat.le_of_ble_eq_true rfl) (t_La_add_77 (D + 1) fm X s3 t hz4 hz3 _) ?_
          rintro _ _ ⟨rfl, rfl⟩
          show ab_Z m_Re_parseProduct _ _ _ 35 [_, _, _, _, _] [] _
          refine ab_go ok_Re_parseProduct 2 rfl ?_
          show ab_Z m_Re_parseProduct _ _ _ 6 [_, _, _, _, _] [] _
          rw [← nI_succ]
          obtain ⟨Z2, hZ2⟩ : ∃ Z2, Z2 = bnd (goT q.1) fun t1 => bnd (u t1) fun q' => .inl (q'.1, q.2 ++ (q'.2 ++ [(oM (K q.1), 0)])) := ⟨_, rfl⟩
          have k4 := adL_k s3 77 z (-nI (K q.1))
          have e8 : ∀ j, adL s3 77 z (-nI (K q.1)) 8 j = s3 8 j := fun j => by
            unfold adL
            split
            · rw [ab_up_o (by decide), ab_up_o (by decide)]
            · rfl
          refine ih _ Z2 ((k1.tr k2.s).tr (k3.tr k4)) ?_ (adL_z hz4 hz3) (fun q2 hq2 => ?_) ?_
          · have e1 : mpT Prod.fst Z2 = mpT Prod.fst (bnd (goT q.1) u) := by
              rw [hZ2]
              cases goT q.1 with
              | inr e => rfl
              | inl t1 =>
                simp only [bnd_l]
                cases u t1 <;> rfl
            rw [e1]
            exact hR3.of (e8 1) (e8 2) (e8 3)
          · rw [hZ2] at hq2
            obtain ⟨t1, b1, b2⟩ := bnd_in hq2
            obtain ⟨q', b3, b4⟩ := bnd_in b2
            cases b4
            have c1 : q.1 < t1 ∧ t1 ≤ 400 := hg.1 t1 b1
            obtain ⟨c2, c3⟩ := hE t1 c1.2
            have c4 := c2.1 q' b3
            have c5 := c3 q' b3
            have hL3 := hq3 q' (by rw [b1, bnd_l]; exact b3)
            have hlz : z = ((Q ++ q.2) ++ q'.2).length := by
              have := hz3.symm.trans hL3.1
              have hll : ((Q ++ q.2) ++ q'.2).length ≤ 400 := by rw [List.length_append]; omega
              exact (nI_eq (by omega) (by omega)).mp this
            have hl4 : ((Q ++ q.2) ++ q'.2).length < 400 := by rw [List.length_append]; omega
            refine ⟨?_, ?_⟩
            · have := adL_c (q := (oM (K q.1), 0)) hl4 hL3
              rw [← hlz, he1] at this
              rw [show Q ++ (q'.1, q.2 ++ (q'.2 ++ [(oM (K q.1), 0)])).2 = Q ++ q.2 ++ q'.2 ++ [(oM (K q.1), 0)] from by simp [List.append_assoc]]
              exact this
            · show (Q ++ (q.2 ++ (q'.2 ++ [(oM (K q.1), 0)]))).length ≤ q'.1
              simp only [List.length_append, List.length_singleton] at hlen ⊢
              omega
          · rw [hZ2, ← hFe, bnd_l, show 400 - i = (400 - (i + 1)) + 1 by omega, lvL, if_neg h0, bnd_bnd]
            refine bnd_cg (fun t1 _ => ?_)
            rw [bnd_bnd]
            rfl
        refine ab_go ok_Re_parseProduct 3 rfl ?_
        show ab_Z m_Re_parseProduct _ _ _ 15 [_, _, _, _, _] [_, _] _
        rw [a2]
        refine ab_br ok_Re_parseProduct rfl rfl ?_ ?_
        · intro h3
          show ab_Z m_Re_parseProduct _ _ _ 20 [_, _, _, _, _] [] _
          exact on (hoi.mpr (Or.inl h3))
        · intro h3
          show ab_Z m_Re_parseProduct _ _ _ 16 [_, _, _, _, _] [] _
          refine ab_go ok_Re_parseProduct 3 rfl ?_
          show ab_Z m_Re_parseProduct _ _ _ 19 [_, _, _, _, _] [_, _] _
          rw [a2]
          refine ab_br ok_Re_parseProduct rfl rfl ?_ ?_
          · intro h4
            show ab_Z m_Re_parseProduct _ _ _ 20 [_, _, _, _, _] [] _
            exact on (hoi.mpr (Or.inr h4))
          · intro h4
            show ab_Z m_Re_parseProduct _ _ _ 37 [_, _, _, _, _] [] _
            exact out (Decidable.byContradiction fun z => (hoi.mp z).elim h3 h4) _
theorem t_Re_parseSum_77 {D : Nat} {dep : Int32} {u : Nat → Rs (Nat × List Ins)} (hE : ExpR u) (hu : CtL g_Re_parseProduct 77 (D + 1) fm X t K P v nm dep u) : CtL g_Re_parseSum 77 (D + 2) fm X t K P v nm dep (lvT K oA u) := by
  intro s R Q hT hR hQ hZ
  obtain ⟨F, hF⟩ : ∃ F, F = bnd R (lvT K oA u) := ⟨_, rfl⟩
  rw [← hF]
  generalize hPo : PLw fm X s t K 77 Q F = Po
  have hposR : ∀ n, R = .inl n → n ≤ 400 := fun n h => by rw [h] at hR; exact hR.2.2.2.1
  refine ab_T_of (M := m_Re_parseSum) rfl rfl (Nat.le_of_ble_eq_true rfl) ?_
  show ab_Z m_Re_parseSum _ _ _ 0 [_, _, _, _, _] [] _
  refine ab_go ok_Re_parseSum 3 rfl ?_
  show ab_Z m_Re_parseSum _ _ _ 3 [_, _, _, _, _] [_, _, _] _
  refine ab_cl ok_Re_parseSum rfl [_, _, _] [] rfl ⟨_, _, rfl, rfl, Or.inl ⟨_, _, rfl, rfl⟩⟩ (Nat.le_of_ble_eq_true rfl) (hu s R Q hT hR hQ hZ) ?_
  rintro _ _ ⟨rfl, s1, rfl, k1, hR1, hZ1, hq1⟩
  show ab_Z m_Re_parseSum _ _ _ 4 [_, _, _, _, _] [] _
  refine ab_go ok_Re_parseSum 2 rfl ?_
  show ab_Z m_Re_parseSum _ _ _ 6 [_, _, _, _, _] [] _
  have main := lp_dn 400 (fun i => ∀ s1 Z, KS 77 s s1 → Rd s1 K (mpT Prod.fst Z) → LwZ s1 77 → (∀ q : Nat × List Ins, Z = .inl q → LwC s1 77 (Q ++ q.2) ∧ (Q ++ q.2).length ≤ q.1) → (bnd Z fun q => lvL K oA u (400 - i) q.1 q.2) = F → ab_Z m_Re_parseSum (D + 2) (0, 0) Po 6 [some (.ref 8), some (.ref 77), some (.int dep), some (.int (nI i)), none] [] (HA fm X s1 t)) ?_ ?_
  · refine main s1 (bnd R u) k1 hR1 hZ1 (fun q hq => ⟨hq1 q hq, ?_⟩) ?_
    · obtain ⟨n, e1, e2⟩ := bnd_in hq
      have a1 := (hE n (hposR n e1)).2 q e2
      have a2 := (hQ n e1).2
      rw [List.length_append]
      omega
    · rw [hF, bnd_bnd]
      rfl
  · intro s1 Z k1 hR1 hZ1 hq1 hFe
    have hZF : Z = F := by
      rw [← hFe]
      cases Z <;> rfl
    rw [hZF] at hR1 hq1
    refine ab_go ok_Re_parseSum 2 rfl ?_
    show ab_Z m_Re_parseSum _ _ _ 8 [_, _, _, _, _] [_, _] _
    refine ab_go ok_Re_parseSum 1 rfl ?_
    show ab_Z m_Re_parseSum _ _ _ 37 [_, _, _, _, _] [] _
    have fin : Po none (HA fm X s1 t) := by
      rw [← hPo]
      exact ⟨rfl, s1, rfl, k1, hR1, hZ1, fun q hq => (hq1 q hq).1⟩
    exact ab_rV ok_Re_parseSum rfl (fin)
  · intro i hi ih s1 Z k1 hR1 hZ1 hq1 hFe
    have hT1 := hT.k (k1.r (by decide)) (KRt.rf t)
    refine ab_go ok_Re_parseSum 2 rfl ?_
    show ab_Z m_Re_parseSum _ _ _ 8 [_, _, _, _, _] [_, _] _
    refine ab_br ok_Re_parseSum rfl rfl ?_ ?_
    · intro h1
      show ab_Z m_Re_parseSum _ _ _ 37 [_, _, _, _, _] [] _
      exact absurd h1 (lp_in (N := 400) (by decide) hi)
    · intro h1
      show ab_Z m_Re_parseSum _ _ _ 9 [_, _, _, _, _] [] _
      refine ab_go ok_Re_parseSum 2 rfl ?_
      show ab_Z m_Re_parseSum _ _ _ 11 [_, _, _, _, _] [_] _
      cases hZc : Z with
      | inr e =>
        rw [hZc] at hR1 hFe hq1
        obtain ⟨a1, a2, a3, a4⟩ := hR1
        rw [a2]
        refine ab_br ok_Re_parseSum rfl rfl ?_ ?_
        · intro h2
          show ab_Z m_Re_parseSum _ _ _ 12 [_, _, _, _, _] [] _
          exact absurd h2 (nI_ne0 (by omega) (by omega))
        · intro h2
          show ab_Z m_Re_parseSum _ _ _ 37 [_, _, _, _, _] [] _
          have fin : Po none (HA fm X s1 t) := by
            rw [← hPo, ← hFe]
            exact ⟨rfl, s1, rfl, k1, ⟨a1, a2, a3, a4⟩, hZ1, fun q hq => by cases hq⟩
          exact ab_rV ok_Re_parseSum rfl (fin)
      | inl q =>
        rw [hZc] at hR1 hFe hq1
        obtain ⟨a1, a2, a3, a4⟩ := hR1
        obtain ⟨hL1, hlen⟩ := hq1 q rfl
        have hKq := hT.2.1 q.1
        have hoi := oA_i (k := K q.1) (by omega)
        rw [a3]
        refine ab_go ok_Re_parseSum 1 rfl ?_
        show ab_Z m_Re_parseSum _ _ _ 12 [_, _, _, _, _] [] _
        have out : oA (K q.1) = 0 → ∀ l4, ab_Z m_Re_parseSum (D + 2) (0, 0) Po 37 [some (.ref 8), some (.ref 77), some (.int dep), some (.int (nI i)), l4] [] (HA fm X s1 t) := by
          intro h0 l4
          have fin : Po none (HA fm X s1 t) := by
            rw [← hPo, ← hFe, bnd_l, show 400 - i = (400 - (i + 1)) + 1 by omega, lvL, if_pos h0]
            exact ⟨rfl, s1, rfl, k1, ⟨a1, a2, a3, a4⟩, hZ1, fun q' hq' => by cases hq'; exact hL1⟩
          exact ab_rV ok_Re_parseSum rfl (fin)
        have on : oA (K q.1) ≠ 0 → ab_Z m_Re_parseSum (D + 2) (0, 0) Po 20 [some (.ref 8), some (.ref 77), some (.int dep), some (.int (nI i)), none] [] (HA fm X s1 t) := by
          intro h0
          obtain ⟨he1, he2, he3⟩ := oA_e h0
          have heat : bnd (.inl q.1 : Rs Nat) (eatT K (K q.1)) = goT q.1 := by
            rw [bnd_l]
            unfold eatT
            rw [if_pos rfl]
          have hR1' : Rd s1 K (.inl q.1) := ⟨a1, a2, a3, a4⟩
          refine ab_go ok_Re_parseSum 5 rfl ?_
          show ab_Z m_Re_parseSum _ _ _ 25 [_, _, _, _, _] [_, _] _
          rw [a2]
          refine ab_cl ok_Re_parseSum rfl [_, _] [] rfl ⟨_, _, rfl, rfl, Or.inl ⟨_, _, rfl, rfl⟩⟩ (Nat.le_of_ble_eq_true rfl) (t_Re_accept (D + 1) fm X s1 t hT1 hR1' he2 he3 _ rfl) ?_
          rintro _ _ ⟨rfl, s2, rfl, k2, hR2⟩
          show ab_Z m_Re_parseSum _ _ _ 26 [_, _, _, _, _] [_] _
          rw [heat] at hR2
          have hg := go_st (t := q.1) a4.1
          refine ab_go ok_Re_parseSum 4 rfl ?_
          show ab_Z m_Re_parseSum _ _ _ 30 [_, _, _, _, _] [_, _, _] _
          refine ab_cl ok_Re_parseSum rfl [_, _, _] [] rfl ⟨_, _, rfl, rfl, Or.inl ⟨_, _, rfl, rfl⟩⟩ (Nat.le_of_ble_eq_true rfl) (hu s2 (goT q.1) (Q ++ q.2) (hT1.k k2.l.r (KRt.rf t)) hR2 (fun n hn => ⟨k2.c (by decide) hL1, by have h9 : q.1 < n := (hg.1 n hn).1; omega⟩) (k2.z (by decide) hZ1)) ?_
          rintro _ _ ⟨rfl, s3, rfl, k3, hR3, ⟨z, hz4, hz3⟩, hq3⟩
          show ab_Z m_Re_parseSum _ _ _ 31 [_, _, _, _, _] [] _
          refine ab_go ok_Re_parseSum 3 rfl ?_
          show ab_Z m_Re_parseSum _ _ _ 34 [_, _, _, _, _] [_, _] _
          refine ab_cl ok_Re_parseSum rfl [_, _] [] rfl ⟨_, _, rfl, rfl, Or.inl ⟨_, _, rfl, rfl⟩⟩ (Nat.le_of_ble_eq_true rfl) (t_La_add_77 (D + 1) fm X s3 t hz4 hz3 _) ?_
          rintro _ _ ⟨rfl, rfl⟩
          show ab_Z m_Re_parseSum _ _ _ 35 [_, _, _, _, _] [] _
          refine ab_go ok_Re_parseSum 2 rfl ?_
          show ab_Z m_Re_parseSum _ _ _ 6 [_, _, _, _, _] [] _
          rw [← nI_succ]
          obtain ⟨Z2, hZ2⟩ : ∃ Z2, Z2 = bnd (goT q.1) fun t1 => bnd (u t1) fun q' => .inl (q'.1, q.2 ++ (q'.2 ++ [(oA (K q.1), 0)])) := ⟨_, rfl⟩
          have k4 := adL_k s3 77 z (-nI (K q.1))
          have e8 : ∀ j, adL s3 77 z (-nI (K q.1)) 8 j = s3 8 j := fun j => by
            unfold adL
            split
            · rw [ab_up_o (by decide), ab_up_o (by decide)]
            · rfl
          refine ih _ Z2 ((k1.tr k2.s).tr (k3.tr k4)) ?_ (adL_z hz4 hz3) (fun q2 hq2 => ?_) ?_
          · have e1 : mpT Prod.fst Z2 = mpT Prod.fst (bnd (goT q.1) u) := by
              rw [hZ2]
              cases goT q.1 with
              | inr e => rfl
              | inl t1 =>
                simp only [bnd_l]
                cases u t1 <;> rfl
            rw [e1]
            exact hR3.of (e8 1) (e8 2) (e8 3)
          · rw [hZ2] at hq2
            obtain ⟨t1, b1, b2⟩ := bnd_in hq2
            obtain ⟨q', b3, b4⟩ := bnd_in b2
            cases b4
            have c1 : q.1 < t1 ∧ t1 ≤ 400 := hg.1 t1 b1
            obtain ⟨c2, c3⟩ := hE t1 c1.2
            have c4 := c2.1 q' b3
            have c5 := c3 q' b3
            have hL3 := hq3 q' (by rw [b1, bnd_l]; exact b3)
            have hlz : z = ((Q ++ q.2) ++ q'.2).length := by
              have := hz3.symm.trans hL3.1
              have hll : ((Q ++ q.2) ++ q'.2).length ≤ 400 := by rw [List.length_append]; omega
              exact (nI_eq (by omega) (by omega)).mp this
            have hl4 : ((Q ++ q.2) ++ q'.2).length < 400 := by rw [List.length_append]; omega
            refine ⟨?_, ?_⟩
            · have := adL_c (q := (oA (K q.1), 0)) hl4 hL3
              rw [← hlz, he1] at this
              rw [show Q ++ (q'.1, q.2 ++ (q'.2 ++ [(oA (K q.1), 0)])).2 = Q ++ q.2 ++ q'.2 ++ [(oA (K q.1), 0)] from by simp [List.append_assoc]]
              exact this
            · show (Q ++ (q.2 ++ (q'.2 ++ [(oA (K q.1), 0)]))).length ≤ q'.1
              simp only [List.length_append, List.length_singleton] at hlen ⊢
              omega
          · rw [hZ2, ← hFe, bnd_l, show 400 - i = (400 - (i + 1)) + 1 by omega, lvL, if_neg h0, bnd_bnd]
            refine bnd_cg (fun t1 _ => ?_)
            rw [bnd_bnd]
            rfl
        refine ab_go ok_Re_parseSum 3 rfl ?_
        show ab_Z m_Re_parseSum _ _ _ 15 [_, _, _, _, _] [_, _] _
        rw [a2]
        refine ab_br ok_Re_parseSum rfl rfl ?_ ?_
        · intro h3
          show ab_Z m_Re_parseSum _ _ _ 20 [_, _, _, _, _] [] _
          exact on (hoi.mpr (Or.inl h3))
        · intro h3
          show ab_Z m_Re_parseSum _ _ _ 16 [_, _, _, _, _] [] _
          refine ab_go ok_Re_parseSum 3 rfl ?_
          show ab_Z m_Re_parseSum _ _ _ 19 [_, _, _, _, _] [_, _] _
          rw [a2]
          refine ab_br ok_Re_parseSum rfl rfl ?_ ?_
          · intro h4
            show ab_Z m_Re_parseSum _ _ _ 20 [_, _, _, _, _] [] _
            exact on (hoi.mpr (Or.inr h4))
          · intro h4
            show ab_Z m_Re_parseSum _ _ _ 37 [_, _, _, _, _] [] _
            exact out (Decidable.byContradiction fun z => (hoi.mp z).elim h3 h4) _
end

