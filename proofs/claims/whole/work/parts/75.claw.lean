/-! the class's reader: laws -/
theorem fl_get {P : List (List Ins)} {i : Nat} {Q : List Ins} (h : P[i]? = some Q) {j : Nat} {q : Ins} (hj : Q[j]? = some q) : P.flatten[ofL P i + j]? = some q := by
  obtain ⟨hi, he⟩ := List.getElem?_eq_some_iff.mp h
  have hP : P = P.take i ++ Q :: P.drop (i + 1) := by
    rw [← he]
    simp
  have hf : P.flatten = (P.take i).flatten ++ (Q ++ (P.drop (i + 1)).flatten) := by
    conv => lhs; rw [hP]
    simp
  have hjl : j < Q.length := (List.getElem?_eq_some_iff.mp hj).1
  rw [hf, ofL, List.getElem?_append_right (by omega), Nat.add_sub_cancel_left, List.getElem?_append_left hjl]
  exact hj
theorem ofL_app (P : List (List Ins)) (c : List Ins) {i : Nat} (h : i ≤ P.length) : ofL (P ++ [c]) i = ofL P i := by
  unfold ofL
  rw [List.take_append_of_le_length h]
theorem ofL_all (P : List (List Ins)) : ofL P P.length = P.flatten.length := by
  unfold ofL
  rw [List.take_length]
def LwI (s : Nat → Nat → Int32) (K : Nat → Nat) (p : Nat) (Z : Rs (Nat × List (List Ins))) : Prop := Rd s K (mpT Prod.fst Z) ∧ LwZ s p ∧ (∃ q, q ≤ 13 ∧ s p 4 = nI q) ∧ ∀ q, Z = .inl q → LwC s p q.2.flatten ∧ q.2.flatten.length ≤ q.1 ∧ s p 4 = nI q.2.length ∧ (∀ i, i < q.2.length → s (p + 2) i = nI (ofL q.2 (i + 1))) ∧ ∀ Q ∈ q.2, okQ Q 0
def acZ (K : Nat → Nat) (w : Nat) (Z : Rs (Nat × List (List Ins))) : Rs (Nat × List (List Ins)) := bnd Z fun q => bnd (eatT K w q.1) fun n => .inl (n, q.2)
def ptZ (K v : Nat → Nat) (Z : Rs (Nat × List (List Ins))) : Rs (Nat × List (List Ins)) := bnd Z fun q => bnd (smT K v 6 q.1) fun c => .inl (c.1, q.2 ++ [c.2])
def KQ (p : Nat) (s s' : Nat → Nat → Int32) : Prop := ∀ c k, ¬ (c = 8 ∧ (k = 1 ∨ k = 2 ∨ k = 3)) → c ≠ p + 1 → c ≠ p + 2 → ¬ (c = p ∧ (k = 3 ∨ k = 4)) → s' c k = s c k
theorem KQ.rf (p : Nat) (s : Nat → Nat → Int32) : KQ p s s := fun _ _ _ _ _ _ => rfl
theorem KQ.tr {p : Nat} {a b c : Nat → Nat → Int32} (h : KQ p a b) (g : KQ p b c) : KQ p a c := fun x k q r u w => (g x k q r u w).trans (h x k q r u w)
theorem KS.q {p : Nat} {a b : Nat → Nat → Int32} (h : KS p a b) : KQ p a b := fun x k q r _ w => h x k q r (fun z => w ⟨z.1, Or.inl z.2⟩)
theorem KQ.r {p : Nat} {a b : Nat → Nat → Int32} (hp : 65 ≤ p ∧ p ≤ 77) (h : KQ p a b) : KR a b := fun x k q r => h x k (fun z => q z.1) (by omega) (by omega) (by omega)
def enL (s : Nat → Nat → Int32) (p q : Nat) : Nat → Nat → Int32 := if q < 13 then ab_up (ab_up s (p + 2) q (s p 3)) p 4 (nI (q + 1)) else s
theorem enL_k (s : Nat → Nat → Int32) (p q : Nat) : KQ p s (enL s p q) := by
  intro c k h1 h2 h3 h4
  unfold enL
  split
  · by_cases hc : c = p
    · subst hc
      rw [ab_up_n (fun z => h4 ⟨rfl, Or.inr z⟩), ab_up_o h3]
    · rw [ab_up_o hc, ab_up_o h3]
  · rfl
theorem ac_mp (K : Nat → Nat) (w : Nat) (Z : Rs (Nat × List (List Ins))) : mpT Prod.fst (acZ K w Z) = bnd (mpT Prod.fst Z) (eatT K w) := by
  unfold acZ
  cases Z with
  | inr e => rfl
  | inl q =>
    simp only [bnd_l]
    cases eatT K w q.1 <;> rfl
theorem pt_mp (K v : Nat → Nat) (Z : Rs (Nat × List (List Ins))) : mpT Prod.fst (ptZ K v Z) = mpT Prod.fst (bnd (mpT Prod.fst Z) (smT K v 6)) := by
  unfold ptZ
  cases Z with
  | inr e => rfl
  | inl q =>
    simp only [bnd_l]
    cases smT K v 6 q.1 <;> rfl
theorem LwI.acc {s s' : Nat → Nat → Int32} {K : Nat → Nat} {p w : Nat} {Z : Rs (Nat × List (List Ins))} (hp : 65 ≤ p) (h : LwI s K p Z) (k : KA s s') (hR : Rd s' K (bnd (mpT Prod.fst Z) (eatT K w))) : LwI s' K p (acZ K w Z) := by
  obtain ⟨h1, h2, ⟨q0, h3, h4⟩, h5⟩ := h
  refine ⟨by rw [ac_mp]; exact hR, k.z hp h2, ⟨q0, h3, (k p 4 (by omega)).trans h4⟩, fun q hq => ?_⟩
  obtain ⟨a, b1, b2⟩ := bnd_in hq
  obtain ⟨n, b3, b4⟩ := bnd_in b2
  cases b4
  obtain ⟨c1, c2, c3, c4, c5⟩ := h5 a b1
  have hpa : a.1 ≤ 400 := by rw [b1] at h1; exact h1.2.2.2.1
  have h9 : a.1 < n := ((eat_st K w hpa).1 n b3).1
  exact ⟨k.c hp c1, by show a.2.flatten.length ≤ n; omega, (k p 4 (by omega)).trans c3, fun i hi => (k (p + 2) i (by omega)).trans (c4 i hi), c5⟩
theorem LwI.part {s s1 : Nat → Nat → Int32} {K v : Nat → Nat} {p : Nat} {Z : Rs (Nat × List (List Ins))} (hp : 65 ≤ p) (hv : ∀ n, K n = 3 → v n < 10000) (hK : ∀ n, K n < 277) (h : LwI s K p Z) (hl : ∀ q, Z = .inl q → q.2.length < 13) (k : KS p s s1) (hR : Rd s1 K (mpT Prod.fst (bnd (mpT Prod.fst Z) (smT K v 6)))) (hZ : LwZ s1 p) (hq : ∀ a q, Z = .inl a → smT K v 6 a.1 = .inl q → LwC s1 p (a.2.flatten ++ q.2)) {q0 : Nat} (hq0 : q0 ≤ 13) (he : s p 4 = nI q0) : LwI (enL s1 p q0) K p (ptZ K v Z) := by
  have h14 : s1 p 4 = nI q0 := (k p 4 (by omega) (by omega) (by omega)).trans he
  have e8 : ∀ j, enL s1 p q0 8 j = s1 8 j := fun j => by
    unfold enL
    split
    · rw [ab_up_o (by omega), ab_up_o (by omega)]
    · rfl
  have ep3 : enL s1 p q0 p 3 = s1 p 3 := by
    unfold enL
    split
    · rw [ab_up_n (by decide), ab_up_o (by omega)]
    · rfl
  refine ⟨?_, ?_, ?_, fun x hx => ?_⟩
  · rw [pt_mp]
    exact hR.of (e8 1) (e8 2) (e8 3)
  · obtain ⟨z, z1, z2⟩ := hZ
    exact ⟨z, z1, ep3.trans z2⟩
  · unfold enL
    split
    · exact ⟨q0 + 1, by omega, ab_up_s ..⟩
    · exact ⟨q0, hq0, h14⟩
  · obtain ⟨a, b1, b2⟩ := bnd_in hx
    obtain ⟨c, b3, b4⟩ := bnd_in b2
    cases b4
    obtain ⟨c1, c2, c3, c4, c5⟩ := h.2.2.2 a b1
    have hlt := hl a b1
    have hq0e : q0 = a.2.length := (nI_eq (by omega) (by omega)).mp (he.symm.trans c3)
    have hL := hq a c b1 b3
    have hpa : a.1 ≤ 400 := by have h1 := h.1; rw [b1] at h1; exact h1.2.2.2.1
    have c6 := (smT_st K v 6 a.1 hpa).2 c b3
    have hfl : (a.2 ++ [c.2]).flatten = a.2.flatten ++ c.2 := by simp
    refine ⟨?_, ?_, ?_, fun i hi => ?_, fun Q hQ => ?_⟩
    · show LwC (enL s1 p q0) p (a.2 ++ [c.2]).flatten
      rw [hfl]
      refine hL.of ep3 ?_
      unfold enL
      split
      · rw [ab_up_o (by omega), ab_up_o (by omega)]
      · rfl
    · show (a.2 ++ [c.2]).flatten.length ≤ c.1
      rw [hfl, List.length_append]
      omega
    · show enL s1 p q0 p 4 = nI (a.2 ++ [c.2]).length
      unfold enL
      rw [if_pos (by omega), ab_up_s, List.length_append, hq0e]
      rfl
    · have hi' : i < (a.2 ++ [c.2]).length := hi
      rw [List.length_append, List.length_singleton] at hi'
      show enL s1 p q0 (p + 2) i = nI (ofL (a.2 ++ [c.2]) (i + 1))
      unfold enL
      rw [if_pos (by omega), ab_up_o (by omega)]
      by_cases hie : i = q0
      · rw [hie, ab_up_s, hq0e, hL.1, show a.2.length + 1 = (a.2 ++ [c.2]).length by simp, ofL_all, hfl]
      · rw [ab_up_n hie, k (p + 2) i (by omega) (by omega) (by omega), c4 i (by omega), ofL_app _ _ (by omega)]
    · have hQ' : Q ∈ a.2 ++ [c.2] := hQ
      rcases List.mem_append.mp hQ' with h1 | h1
      · exact c5 Q h1
      · rw [List.mem_singleton.mp h1]
        exact smT_ok hv hK b3
theorem LwI.law {s : Nat → Nat → Int32} {K : Nat → Nat} {p : Nat} {Z : Rs (Nat × List (List Ins))} (h : LwI s K p Z) {q : Nat × List (List Ins)} (hq : Z = .inl q) (h1 : 1 ≤ q.2.length) (h13 : q.2.length ≤ 13) : CLaw s p q.2 := by
  obtain ⟨c1, c2, c3, c4, c5⟩ := h.2.2.2 q hq
  have hpa : q.1 ≤ 400 := by have h2 := h.1; rw [hq] at h2; exact h2.2.2.2.1
  exact ⟨c3, h1, h13, by omega, c4, fun i Q hi j x hj => c1.2 _ x (fl_get hi hj), c5⟩
/-- the code that stands so far -/
def flZ (Z : Rs (Nat × List (List Ins))) : List Ins := match Z with
  | .inl q => q.2.flatten
  | .inr _ => []
abbrev PLa (fm : Value) (X : Nat × (Nat → Int32)) (s : Nat → Nat → Int32) (t : Nat → Nat → Int64) (K : Nat → Nat) (p : Nat) (F : Rs (Nat × List (List Ins))) : Option Value → ab_H → Prop := fun r h => r = none ∧ ∃ s', h = HA fm X s' t ∧ KQ p s s' ∧ Rd s' K (mpT Prod.fst F) ∧ ∀ q, F = .inl q → CLaw s' p q.2
theorem lawL_len {K v : Nat → Nat} : ∀ (n t : Nat) (P : List (List Ins)) (q : Nat × List (List Ins)), lawL K v n t P = .inl q → P.length + 1 ≤ q.2.length ∧ q.2.length ≤ P.length + 3 * n + 1
  | 0, t, P, q, h => by
    rw [lawL] at h
    split at h
    · cases h
    · obtain ⟨c, b1, b2⟩ := bnd_in h
      cases b2
      simp
  | n + 1, t, P, q, h => by
    rw [lawL] at h
    split at h
    · obtain ⟨t1, b1, b2⟩ := bnd_in h
      obtain ⟨q1, b3, b4⟩ := bnd_in b2
      obtain ⟨t2, b5, b6⟩ := bnd_in b4
      obtain ⟨q2, b7, b8⟩ := bnd_in b6
      obtain ⟨t3, b9, b10⟩ := bnd_in b8
      obtain ⟨q3, b11, b12⟩ := bnd_in b10
      obtain ⟨t4, b13, b14⟩ := bnd_in b12
      have := lawL_len n t4 _ q b14
      simp only [List.length_append, List.length_cons, List.length_nil] at this
      omega
    · obtain ⟨c, b1, b2⟩ := bnd_in h
      cases b2
      simp
section
variable (d : Nat) (fm : Value) (X : Nat × (Nat → Int32)) (s : Nat → Nat → Int32) (t : Nat → Nat → Int64)
variable {K P v : Nat → Nat} {nm : Nat → List Nat}
theorem t_La_clear_65 : ab_T g_La_clear d (0, 0) [.ref 65] (HA fm X s t) (PV (HA fm X (ab_up (ab_up s 65 3 0) 65 4 0) t)) := by
  refine ab_T_of (M := m_La_clear) rfl rfl (Nat.le_of_ble_eq_true rfl) ?_
  show ab_Z m_La_clear _ _ _ 0 [_] [] _
  refine ab_go ok_La_clear 6 rfl ?_
  show ab_Z m_La_clear _ _ _ 6 [_] [] _
  exact ab_rV ok_La_clear rfl (⟨rfl, rfl⟩)
theorem t_La_endPart_65 {q : Nat} (hq : q ≤ 13) (h : s 65 4 = nI q) : ab_T g_La_endPart d (0, 0) [.ref 65] (HA fm X s t) (PV (HA fm X (enL s 65 q) t)) := by
  unfold enL
  refine ab_T_of (M := m_La_endPart) rfl rfl (Nat.le_of_ble_eq_true rfl) ?_
  show ab_Z m_La_endPart _ _ _ 0 [_] [] _
  refine ab_go ok_La_endPart 2 rfl ?_
  show ab_Z m_La_endPart _ _ _ 2 [_] [_] _
  rw [h]
  refine ab_br ok_La_endPart rfl rfl ?_ ?_
  · intro h0
    show ab_Z m_La_endPart _ _ _ 22 [_] [] _
    exact absurd h0 (nI_l0 (by omega))
  · intro h0
    show ab_Z m_La_endPart _ _ _ 3 [_] [] _
    refine ab_go ok_La_endPart 5 rfl ?_
    show ab_Z m_La_endPart _ _ _ 8 [_] [_, _] _
    rw [h]
    refine ab_br ok_La_endPart rfl rfl ?_ ?_
    · intro h1
      show ab_Z m_La_endPart _ _ _ 22 [_] [] _
      have h1' := (nI_leI (show 13 < 2 ^ 31 by decide) (show q < 2 ^ 31 by omega)).mp h1
      exact ab_rV ok_La_endPart rfl (⟨rfl, by rw [if_neg (by omega)]⟩)
    · intro h1
      show ab_Z m_La_endPart _ _ _ 9 [_] [] _
      have h1' : q < 13 := by
        rcases Nat.lt_or_ge q 13 with z | z
        · exact z
        · exact absurd ((nI_leI (show 13 < 2 ^ 31 by decide) (show q < 2 ^ 31 by omega)).mpr z) h1
      rw [if_pos h1']
      refine ab_go ok_La_endPart 6 rfl ?_
      show ab_Z m_La_endPart _ _ _ 15 [_] [_, _, _] _
      rw [h]
      refine ab_is ok_La_endPart rfl rfl (k := q) (by first | rfl | (simp only [LL1, LL2, LL3, LL4, LL5, LL6, LL7, LL8, LL10, LL15, LL18, LL20, LL21, LL22, LL23, LL24, LL32, LL39, LL40, LL130, LL420, pk_mul, nI_add]; done) | (simp only [LL1, LL2, LL3, LL4, LL5, LL6, LL7, LL8, LL10, LL15, LL18, LL20, LL21, LL22, LL23, LL24, LL32, LL39, LL40, LL130, LL420, pk_mul, nI_add]; congr 1; omega)) (by omega) (Nat.le_of_ble_eq_true rfl) ?_
      show ab_Z m_La_endPart _ _ _ 16 [_] [] _
      refine ab_go ok_La_endPart 6 rfl ?_
      show ab_Z m_La_endPart _ _ _ 22 [_] [] _
      rw [show ab_up s 67 q (s 65 3) 65 4 = nI q from by rw [ab_up_o (by decide)]; exact h, ← nI_succ]
      exact ab_rV ok_La_endPart rfl (⟨rfl, rfl⟩)
theorem t_La_setTo_65 (e : Ins) (x : Int32) (hx : x = encI e) (he : okQ [e] 0) : ab_T g_La_setTo (d + 1) (0, 0) [.ref 65, .int x] (HA fm X s t) (fun r h => r = none ∧ ∃ s', h = HA fm X s' t ∧ KQ 65 s s' ∧ CLaw s' 65 [[e]]) := by
  subst hx
  refine ab_T_of (M := m_La_setTo) rfl rfl (Nat.le_of_ble_eq_true rfl) ?_
  show ab_Z m_La_setTo _ _ _ 0 [_, _] [] _
  refine ab_go ok_La_setTo 1 rfl ?_
  show ab_Z m_La_setTo _ _ _ 1 [_, _] [_] _
  refine ab_cl ok_La_setTo rfl [_] [] rfl ⟨_, _, rfl, rfl, Or.inl ⟨_, _, rfl, rfl⟩⟩ (Nat.le_of_ble_eq_true rfl) (t_La_clear_65 d fm X s t) ?_
  rintro _ _ ⟨rfl, rfl⟩
  show ab_Z m_La_setTo _ _ _ 2 [_, _] [] _
  refine ab_go ok_La_setTo 2 rfl ?_
  show ab_Z m_La_setTo _ _ _ 4 [_, _] [_, _] _
  refine ab_cl ok_La_setTo rfl [_, _] [] rfl ⟨_, _, rfl, rfl, Or.inl ⟨_, _, rfl, rfl⟩⟩ (Nat.le_of_ble_eq_true rfl) (t_La_add_65 d fm X _ t (z := 0) (by decide) (by rw [ab_up_n (by decide), ab_up_s]; rfl) _) ?_
  rintro _ _ ⟨rfl, rfl⟩
  show ab_Z m_La_setTo _ _ _ 5 [_, _] [] _
  refine ab_go ok_La_setTo 1 rfl ?_
  show ab_Z m_La_setTo _ _ _ 6 [_, _] [_] _
  have h4 : adL (ab_up (ab_up s 65 3 0) 65 4 0) 65 0 (encI e) 65 4 = nI 0 := by
    unfold adL
    rw [if_pos (by decide), ab_up_n (by decide), ab_up_o (by decide), ab_up_s]
    rfl
  refine ab_cl ok_La_setTo rfl [_] [] rfl ⟨_, _, rfl, rfl, Or.inl ⟨_, _, rfl, rfl⟩⟩ (Nat.le_of_ble_eq_true rfl) (t_La_endPart_65 d fm X _ t (q := 0) (by decide) h4) ?_
  rintro _ _ ⟨rfl, rfl⟩
  show ab_Z m_La_setTo _ _ _ 7 [_, _] [] _
  have k0 : KQ 65 s (ab_up (ab_up s 65 3 0) 65 4 0) := fun c k _ _ _ h => by
    by_cases hc : c = 65
    · subst hc
      rw [ab_up_n (fun z => h ⟨rfl, Or.inr z⟩), ab_up_n (fun z => h ⟨rfl, Or.inl z⟩)]
    · rw [ab_up_o hc, ab_up_o hc]
  have hL : LwC (adL (ab_up (ab_up s 65 3 0) 65 4 0) 65 0 (encI e)) 65 [e] := adL_c (Q := []) (by decide) ⟨by rw [ab_up_n (by decide), ab_up_s]; rfl, fun j q h => by simp at h⟩
  have hC : CLaw (enL (adL (ab_up (ab_up s 65 3 0) 65 4 0) 65 0 (encI e)) 65 0) 65 [[e]] := by
    refine ⟨?_, show 1 ≤ 1 by decide, show 1 ≤ 13 by decide, show 1 ≤ 400 by decide, fun i hi => ?_, fun i Q hi j q hj => ?_, fun Q hQ => ?_⟩
    · unfold enL
      rw [if_pos (by decide), ab_up_s]
      rfl
    · have h0 : i = 0 := by simpa using hi
      subst h0
      unfold enL
      rw [if_pos (by decide), ab_up_o (by decide), ab_up_s]
      exact hL.1
    · have := fl_get hi hj
      have h5 := hL.2 (ofL [[e]] i + j) q this
      unfold enL
      rw [if_pos (by decide), ab_up_o (by decide), ab_up_o (by decide)]
      exact h5
    · rw [List.mem_singleton.mp hQ]; exact he
  exact ab_rV ok_La_setTo rfl (⟨rfl, _, rfl, (k0.tr (adL_k _ 65 0 (encI e)).q).tr (enL_k _ 65 0), hC⟩)
theorem t_Re_parseLaw_65 (hT : TC s t K P v nm) {n0 : Nat} (hR : Rd s K (.inl n0)) (hK0 : K n0 = 259) : ab_T g_Re_parseLaw (d + 23) (0, 0) [.ref 8, .ref 65] (HA fm X s t) (PLa fm X s t K 65 (lawT K v n0)) := by
  obtain ⟨F, hF⟩ : ∃ F, F = lawT K v n0 := ⟨_, rfl⟩
  rw [← hF]
  generalize hPo : PLa fm X s t K 65 F = Po
  have hFlen : ∀ q, F = .inl q → 1 ≤ q.2.length ∧ q.2.length ≤ 13 := fun q hq => by
    rw [hF] at hq
    obtain ⟨t1, b1, b2⟩ := bnd_in hq
    obtain ⟨t2, b3, b4⟩ := bnd_in b2
    have := lawL_len 4 t2 [] q b4
    simp only [List.length_nil] at this
    omega
  have sum1 : ∀ s1 Z, TC s1 t K P v nm → LwI s1 K 65 Z → ab_T g_Re_parseSum (d + 22) (0, 0) [.ref 8, .ref 65, .int 0] (HA fm X s1 t) (fun r h => r = none ∧ ∃ s2, h = HA fm X s2 t ∧ KS 65 s1 s2 ∧ Rd s2 K (mpT Prod.fst (bnd (mpT Prod.fst Z) (smT K v 6))) ∧ LwZ s2 65 ∧ ∀ a q, Z = .inl a → smT K v 6 a.1 = .inl q → LwC s2 65 (a.2.flatten ++ q.2)) := by
    intro s1 Z hT1 hI
    have hc := (t_exp_65 fm X t (K := K) (P := P) (v := v) (nm := nm) 6 (Nat.le_refl _) d).2 s1 (mpT Prod.fst Z) (flZ Z) hT1 hI.1 (fun n hn => by
      cases Z with
      | inr e => cases hn
      | inl q => cases hn; exact ⟨(hI.2.2.2 q rfl).1, (hI.2.2.2 q rfl).2.1⟩) hI.2.1
    refine ab_T_mono hc fun r h hp => ?_
    obtain ⟨rfl, s2, rfl, k2, hR2, hZ2, hq2⟩ := hp
    refine ⟨rfl, s2, rfl, k2, hR2, hZ2, fun a q ha hq => ?_⟩
    have := hq2 q (by rw [ha]; exact hq)
    rw [ha] at this
    exact this
  refine ab_T_of (M := m_Re_parseLaw) rfl rfl (Nat.le_of_ble_eq_true rfl) ?_
  show ab_Z m_Re_parseLaw _ _ _ 0 [_, _, _] [] _
  refine ab_go ok_Re_parseLaw 1 rfl ?_
  show ab_Z m_Re_parseLaw _ _ _ 1 [_, _, _] [_] _
  refine ab_cl ok_Re_parseLaw rfl [_] [] rfl ⟨_, _, rfl, rfl, Or.inl ⟨_, _, rfl, rfl⟩⟩ (Nat.le_of_ble_eq_true rfl) (t_La_clear_65 (d + 22) fm X s t) ?_
  rintro _ _ ⟨rfl, rfl⟩
  show ab_Z m_Re_parseLaw _ _ _ 2 [_, _, _] [] _
  have kc : KQ 65 s (ab_up (ab_up s 65 3 0) 65 4 0) := fun c k _ _ _ h => by
    by_cases hc : c = 65
    · subst hc
      rw [ab_up_n (fun z => h ⟨rfl, Or.inr z⟩), ab_up_n (fun z => h ⟨rfl, Or.inl z⟩)]
    · rw [ab_up_o hc, ab_up_o hc]
  have hTc := hT.k (kc.r (by decide)) (KRt.rf t)
  have c8 : ∀ j, ab_up (ab_up s 65 3 0) 65 4 0 8 j = s 8 j := fun j => by rw [ab_up_o (by decide), ab_up_o (by decide)]
  have hRc : Rd (ab_up (ab_up s 65 3 0) 65 4 0) K (.inl n0) := hR.of (c8 1) (c8 2) (c8 3)
  have hIc : LwI (ab_up (ab_up s 65 3 0) 65 4 0) K 65 (.inl (n0, [])) := by
    have h3 : ab_up (ab_up s 65 3 0) 65 4 0 65 3 = nI 0 := by rw [ab_up_n (by decide), ab_up_s]; rfl
    refine ⟨hRc, ⟨0, by decide, h3⟩, ⟨0, by decide, ab_up_s ..⟩, fun q hq => ?_⟩
    cases hq
    exact ⟨⟨h3, fun j q h => by simp at h⟩, Nat.zero_le _, ab_up_s .., fun i hi => absurd hi (by simp), fun Q hQ => by simp at hQ⟩
  generalize ab_up (ab_up s 65 3 0) 65 4 0 = s0 at kc hTc hRc hIc
  refine ab_go ok_Re_parseLaw 3 rfl ?_
  show ab_Z m_Re_parseLaw _ _ _ 5 [_, _, _] [_, _] _
  rw [hRc.2.1, hK0]
  refine ab_cl ok_Re_parseLaw rfl [_, _] [] rfl ⟨_, _, rfl, rfl, Or.inl ⟨_, _, rfl, rfl⟩⟩ (Nat.le_of_ble_eq_true rfl) (t_Re_accept (d + 22) fm X s0 t hTc hIc.1 (w := 259) (by decide) (by decide) _ rfl) ?_
  rintro _ _ ⟨rfl, s1, rfl, k1, hR1⟩
  show ab_Z m_Re_parseLaw _ _ _ 6 [_, _, _] [_] _
  have hI1 := hIc.acc (by decide) k1 hR1
  have hT1 := hTc.k k1.l.r (KRt.rf t)
  refine ab_go ok_Re_parseLaw 3 rfl ?_
  show ab_Z m_Re_parseLaw _ _ _ 9 [_, _, _] [_, _] _
  refine ab_cl ok_Re_parseLaw rfl [_, _] [] rfl ⟨_, _, rfl, rfl, Or.inl ⟨_, _, rfl, rfl⟩⟩ (Nat.le_of_ble_eq_true rfl) (t_Re_accept (d + 22) fm X s1 t hT1 hI1.1 (w := 61) (by decide) (by decide) _ rfl) ?_
  rintro _ _ ⟨rfl, s2, rfl, k2, hR2⟩
  show ab_Z m_Re_parseLaw _ _ _ 10 [_, _, _] [_] _
  have hI2 := hI1.acc (by decide) k2 hR2
  have hT2 := hT1.k k2.l.r (KRt.rf t)
  refine ab_go ok_Re_parseLaw 3 rfl ?_
  show ab_Z m_Re_parseLaw _ _ _ 13 [_, _, _] [] _
  have main := lp_dn 5 (fun n => ∀ s3 Z, KQ 65 s s3 → LwI s3 K 65 Z → (∀ q, Z = .inl q → q.2.length = 3 * n ∧ n ≤ 4) → (bnd Z fun q => lawL K v (4 - n) q.1 q.2) = F → ab_Z m_Re_parseLaw (d + 23) (0, 0) Po 13 [some (.ref 8), some (.ref 65), some (.int (nI n))] [] (HA fm X s3 t)) ?_ ?_
  · refine main s2 _ ((kc.tr k1.s.q).tr k2.s.q) hI2 (fun q hq => ?_) ?_
    · obtain ⟨a, b1, b2⟩ := bnd_in hq
      obtain ⟨a2, b3, b4⟩ := bnd_in b2
      cases b4
      obtain ⟨a3, b5, b6⟩ := bnd_in b1
      cases b5
      obtain ⟨a4, b7, b8⟩ := bnd_in b6
      cases b8
      exact ⟨rfl, by decide⟩
    · rw [hF]
      unfold acZ lawT
      rw [bnd_l, show eatT K 259 (n0, ([] : List (List Ins))).1 = goT n0 from by unfold eatT; rw [if_pos hK0]]
      cases goT n0 with
      | inr e => rfl
      | inl t1 =>
        simp only [bnd_l]
        cases eatT K 61 t1 <;> rfl
  · intro s3 Z k3 hI3 hlen hFe
    cases hZc : Z with
    | inl q => have := (hlen q hZc).2; omega
    | inr e =>
      rw [hZc] at hI3 hFe
      have hT3 := hT.k (k3.r (by decide)) (KRt.rf t)
      obtain ⟨q0, hq1, hq2⟩ := hI3.2.2.1
      refine ab_go ok_Re_parseLaw 2 rfl ?_
      show ab_Z m_Re_parseLaw _ _ _ 15 [_, _, _] [_, _] _
      refine ab_go ok_Re_parseLaw 1 rfl ?_
      show ab_Z m_Re_parseLaw _ _ _ 65 [_, _, _] [] _
      refine ab_go ok_Re_parseLaw 3 rfl ?_
      show ab_Z m_Re_parseLaw _ _ _ 68 [_, _, _] [_, _, _] _
      refine ab_cl ok_Re_parseLaw rfl [_, _, _] [] rfl ⟨_, _, rfl, rfl, Or.inl ⟨_, _, rfl, rfl⟩⟩ (Nat.le_of_ble_eq_true rfl) (sum1 s3 (.inr e) hT3 hI3) ?_
      rintro _ _ ⟨rfl, s4, rfl, k4, hR4, hZ4, -⟩
      show ab_Z m_Re_parseLaw _ _ _ 69 [_, _, _] [] _
      refine ab_go ok_Re_parseLaw 1 rfl ?_
      show ab_Z m_Re_parseLaw _ _ _ 70 [_, _, _] [_] _
      refine ab_cl ok_Re_parseLaw rfl [_] [] rfl ⟨_, _, rfl, rfl, Or.inl ⟨_, _, rfl, rfl⟩⟩ (Nat.le_of_ble_eq_true rfl) (t_La_endPart_65 (d + 22) fm X s4 t hq1 ((k4 65 4 (by omega) (by omega) (by omega)).trans hq2)) ?_
      rintro _ _ ⟨rfl, rfl⟩
      show ab_Z m_Re_parseLaw _ _ _ 71 [_, _, _] [] _
      have fin : Po none (HA fm X (enL s4 65 q0) t) := by
        rw [← hPo, ← hFe]
        refine ⟨rfl, _, rfl, (k3.tr k4.q).tr (enL_k s4 65 q0), ?_, fun q hq => by cases hq⟩
        have e8 : ∀ j, enL s4 65 q0 8 j = s4 8 j := fun j => by
          unfold enL
          split
          · rw [ab_up_o (by decide), ab_up_o (by decide)]
          · rfl
        exact hR4.of (e8 1) (e8 2) (e8 3)
      exact ab_rV ok_Re_parseLaw rfl (fin)
  · intro n hn ih s3 Z k3 hI3 hlen hFe
    have hT3 := hT.k (k3.r (by decide)) (KRt.rf t)
    have last : (∀ q, Z = .inl q → K q.1 ≠ 265) → ab_Z m_Re_parseLaw (d + 23) (0, 0) Po 65 [some (.ref 8), some (.ref 65), some (.int (nI n))] [] (HA fm X s3 t) := by
      intro hk
      obtain ⟨q0, hq1, hq2⟩ := hI3.2.2.1
      have hFZ : F = ptZ K v Z := by
        rw [← hFe]
        unfold ptZ
        refine bnd_cg (fun q hq => ?_)
        have h0 := hk q hq
        cases hn4 : 4 - n with
        | zero => rw [lawL, if_neg h0]
        | succ m => rw [lawL, if_neg h0]
      refine ab_go ok_Re_parseLaw 3 rfl ?_
      show ab_Z m_Re_parseLaw _ _ _ 68 [_, _, _] [_, _, _] _
      refine ab_cl ok_Re_parseLaw rfl [_, _, _] [] rfl ⟨_, _, rfl, rfl, Or.inl ⟨_, _, rfl, rfl⟩⟩ (Nat.le_of_ble_eq_true rfl) (sum1 s3 Z hT3 hI3) ?_
      rintro _ _ ⟨rfl, s4, rfl, k4, hR4, hZ4, hq4⟩
      show ab_Z m_Re_parseLaw _ _ _ 69 [_, _, _] [] _
      refine ab_go ok_Re_parseLaw 1 rfl ?_
      show ab_Z m_Re_parseLaw _ _ _ 70 [_, _, _] [_] _
      refine ab_cl ok_Re_parseLaw rfl [_] [] rfl ⟨_, _, rfl, rfl, Or.inl ⟨_, _, rfl, rfl⟩⟩ (Nat.le_of_ble_eq_true rfl) (t_La_endPart_65 (d + 22) fm X s4 t hq1 ((k4 65 4 (by omega) (by omega) (by omega)).trans hq2)) ?_
      rintro _ _ ⟨rfl, rfl⟩
      show ab_Z m_Re_parseLaw _ _ _ 71 [_, _, _] [] _
      have hI5 := hI3.part (by decide) hT.2.2.1 hT.2.1 (fun q hq => by have := hlen q hq; omega) k4 hR4 hZ4 hq4 hq1 hq2
      have fin : Po none (HA fm X (enL s4 65 q0) t) := by
        rw [← hPo]
        refine ⟨rfl, _, rfl, (k3.tr k4.q).tr (enL_k s4 65 q0), by rw [hFZ]; exact hI5.1, fun q hq => ?_⟩
        have hl := hFlen q hq
        rw [hFZ] at hq
        exact hI5.law hq hl.1 hl.2
      exact ab_rV ok_Re_parseLaw rfl (fin)
    refine ab_go ok_Re_parseLaw 2 rfl ?_
    show ab_Z m_Re_parseLaw _ _ _ 15 [_, _, _] [_, _] _
    refine ab_br ok_Re_parseLaw rfl rfl ?_ ?_
    · intro h1
      show ab_Z m_Re_parseLaw _ _ _ 65 [_, _, _] [] _
      have := i_ltK (z := 4) rfl h1
      rw [nI_t (by omega)] at this
      omega
    · intro h1
      show ab_Z m_Re_parseLaw _ _ _ 16 [_, _, _] [] _
      refine ab_go ok_Re_parseLaw 2 rfl ?_
      show ab_Z m_Re_parseLaw _ _ _ 18 [_, _, _] [_] _
      cases hZc : Z with
      | inr e =>
        have hI3' := hI3
        rw [hZc] at hI3'
        obtain ⟨⟨a1, a2, a3, a4⟩, -⟩ := hI3'
        rw [a2]
        refine ab_br ok_Re_parseLaw rfl rfl ?_ ?_
        · intro h2
          show ab_Z m_Re_parseLaw _ _ _ 19 [_, _, _] [] _
          exact absurd h2 (nI_ne0 (by omega) (by omega))
        · intro h2
          show ab_Z m_Re_parseLaw _ _ _ 65 [_, _, _] [] _
          exact last (fun q hq => by rw [hZc] at hq; cases hq)
      | inl q =>
        have hI3' := hI3
        rw [hZc] at hI3'
        obtain ⟨⟨a1, a2, a3, a4⟩, -⟩ := hI3'
        have hKq := hT.2.1 q.1
        have hlq := hlen q hZc
        rw [a3]
        refine ab_go ok_Re_parseLaw 1 rfl ?_
        show ab_Z m_Re_parseLaw _ _ _ 19 [_, _, _] [] _
        refine ab_go ok_Re_parseLaw 3 rfl ?_
        show ab_Z m_Re_parseLaw _ _ _ 22 [_, _, _] [_, _] _
        rw [show s3 8 2 = nI (K q.1) from a2]
        refine ab_br ok_Re_parseLaw rfl rfl ?_ ?_
        · intro h2
          show ab_Z m_Re_parseLaw _ _ _ 23 [_, _, _] [] _
          have h2' : K q.1 = 265 := (nI_eq (b := 265) (by omega) (by decide)).mp h2
          -- Z1: behind the word
          have body : ∀ s4 Z0, KQ 65 s s4 → LwI s4 K 65 Z0 → (∀ a, Z0 = .inl a → a.2.length = 3 * n ∧ n ≤ 3) → (∀ a, Z0 = .inl a → K a.1 = 265) → (∀ Zn, (bnd (acZ K 267 (ptZ K v (acZ K 266 (ptZ K v (acZ K 60 (ptZ K v (acZ K 265 Z0))))))) fun q => lawL K v (4 - (n + 1)) q.1 q.2) = Zn → Zn = F) → ab_Z m_Re_parseLaw (d + 23) (0, 0) Po 29 [some (.ref 8), some (.ref 65), some (.int (nI n))] [] (HA fm X s4 t) := by
            intro s4 Z0 k4 hI4 hl0 hk0 hFin
            have hT4 := hT.k (k4.r (by decide)) (KRt.rf t)
            have hl1 : ∀ a, acZ K 265 Z0 = .inl a → a.2.length = 3 * n ∧ n ≤ 3 := fun a ha => by
              obtain ⟨b, b1, b2⟩ := bnd_in ha
              obtain ⟨c, b3, b4⟩ := bnd_in b2
              cases b4
              exact hl0 b b1
            have hl2 : ∀ a, acZ K 60 (ptZ K v (acZ K 265 Z0)) = .inl a → a.2.length = 3 * n + 1 ∧ n ≤ 3 := fun a ha => by
              obtain ⟨b, b1, b2⟩ := bnd_in ha
              obtain ⟨c, b3, b4⟩ := bnd_in b2
              cases b4
              obtain ⟨b', b5, b6⟩ := bnd_in b1
              obtain ⟨c', b7, b8⟩ := bnd_in b6
              cases b8
              have := hl1 b' b5
              simp only [List.length_append, List.length_singleton]
              omega
            have hl3 : ∀ a, acZ K 266 (ptZ K v (acZ K 60 (ptZ K v (acZ K 265 Z0)))) = .inl a → a.2.length = 3 * n + 2 ∧ n ≤ 3 := fun a ha => by
              obtain ⟨b, b1, b2⟩ := bnd_in ha
              obtain ⟨c, b3, b4⟩ := bnd_in b2
              cases b4
              obtain ⟨b', b5, b6⟩ := bnd_in b1
              obtain ⟨c', b7, b8⟩ := bnd_in b6
              cases b8
              have := hl2 b' b5
              simp only [List.length_append, List.length_singleton]
              omega
            refine ab_go ok_Re_parseLaw 2 rfl ?_
            show ab_Z m_Re_parseLaw _ _ _ 31 [_, _, _] [_, _] _
            refine ab_cl ok_Re_parseLaw rfl [_, _] [] rfl ⟨_, _, rfl, rfl, Or.inl ⟨_, _, rfl, rfl⟩⟩ (Nat.le_of_ble_eq_true rfl) (t_Re_accept (d + 22) fm X s4 t hT4 hI4.1 (w := 265) (by decide) (by decide) _ rfl) ?_
            rintro _ _ ⟨rfl, s5, rfl, k5, hR5⟩
            show ab_Z m_Re_parseLaw _ _ _ 32 [_, _, _] [_] _
            have hI5 := hI4.acc (by decide) k5 hR5
            have hT5 := hT4.k k5.l.r (KRt.rf t)
            refine ab_go ok_Re_parseLaw 4 rfl ?_
            show ab_Z m_Re_parseLaw _ _ _ 36 [_, _, _] [_, _, _] _
            refine ab_cl ok_Re_parseLaw rfl [_, _, _] [] rfl ⟨_, _, rfl, rfl, Or.inl ⟨_, _, rfl, rfl⟩⟩ (Nat.le_of_ble_eq_true rfl) (sum1 s5 _ hT5 hI5) ?_
            rintro _ _ ⟨rfl, s6, rfl, k6, hR6, hZ6, hq6⟩
            show ab_Z m_Re_parseLaw _ _ _ 37 [_, _, _] [] _
            obtain ⟨p6, hp61, hp62⟩ := hI5.2.2.1
            refine ab_go ok_Re_parseLaw 1 rfl ?_
            show ab_Z m_Re_parseLaw _ _ _ 38 [_, _, _] [_] _
            refine ab_cl ok_Re_parseLaw rfl [_] [] rfl ⟨_, _, rfl, rfl, Or.inl ⟨_, _, rfl, rfl⟩⟩ (Nat.le_of_ble_eq_true rfl) (t_La_endPart_65 (d + 22) fm X s6 t hp61 ((k6 65 4 (by omega) (by omega) (by omega)).trans hp62)) ?_
            rintro _ _ ⟨rfl, rfl⟩
            show ab_Z m_Re_parseLaw _ _ _ 39 [_, _, _] [] _
            have hI7 := hI5.part (by decide) hT.2.2.1 hT.2.1 (fun q hq => by have := hl1 q hq; omega) k6 hR6 hZ6 hq6 hp61 hp62
            have k47 : KQ 65 s (enL s6 65 p6) := ((k4.tr k5.s.q).tr k6.q).tr (enL_k s6 65 p6)
            generalize enL s6 65 p6 = s7 at hI7 k47 ⊢
            have hT7 := hT.k (k47.r (by decide)) (KRt.rf t)
            refine ab_go ok_Re_parseLaw 2 rfl ?_
            show ab_Z m_Re_parseLaw _ _ _ 41 [_, _, _] [_, _] _
            refine ab_cl ok_Re_parseLaw rfl [_, _] [] rfl ⟨_, _, rfl, rfl, Or.inl ⟨_, _, rfl, rfl⟩⟩ (Nat.le_of_ble_eq_true rfl) (t_Re_accept (d + 22) fm X s7 t hT7 hI7.1 (w := 60) (by decide) (by decide) _ rfl) ?_
            rintro _ _ ⟨rfl, s8, rfl, k8, hR8⟩
            show ab_Z m_Re_parseLaw _ _ _ 42 [_, _, _] [_] _
            have hI8 := hI7.acc (by decide) k8 hR8
            have hT8 := hT7.k k8.l.r (KRt.rf t)
            refine ab_go ok_Re_parseLaw 4 rfl ?_
            show ab_Z m_Re_parseLaw _ _ _ 46 [_, _, _] [_, _, _] _
            refine ab_cl ok_Re_parseLaw rfl [_, _, _] [] rfl ⟨_, _, rfl, rfl, Or.inl ⟨_, _, rfl, rfl⟩⟩ (Nat.le_of_ble_eq_true rfl) (sum1 s8 _ hT8 hI8) ?_
            rintro _ _ ⟨rfl, s9, rfl, k9, hR9, hZ9, hq9⟩
            show ab_Z m_Re_parseLaw _ _ _ 47 [_, _, _] [] _
            obtain ⟨p9, hp91, hp92⟩ := hI8.2.2.1
            refine ab_go ok_Re_parseLaw 1 rfl ?_
            show ab_Z m_Re_parseLaw _ _ _ 48 [_, _, _] [_] _
            refine ab_cl ok_Re_parseLaw rfl [_] [] rfl ⟨_, _, rfl, rfl, Or.inl ⟨_, _, rfl, rfl⟩⟩ (Nat.le_of_ble_eq_true rfl) (t_La_endPart_65 (d + 22) fm X s9 t hp91 ((k9 65 4 (by omega) (by omega) (by omega)).trans hp92)) ?_
            rintro _ _ ⟨rfl, rfl⟩
            show ab_Z m_Re_parseLaw _ _ _ 49 [_, _, _] [] _
            have hI10 := hI8.part (by decide) hT.2.2.1 hT.2.1 (fun q hq => by have := hl2 q hq; omega) k9 hR9 hZ9 hq9 hp91 hp92
            have k410 : KQ 65 s (enL s9 65 p9) := ((k47.tr k8.s.q).tr k9.q).tr (enL_k s9 65 p9)
            generalize enL s9 65 p9 = s10 at hI10 k410 ⊢
            have hT10 := hT.k (k410.r (by decide)) (KRt.rf t)
            refine ab_go ok_Re_parseLaw 2 rfl ?_
            show ab_Z m_Re_parseLaw _ _ _ 51 [_, _, _] [_, _] _
            refine ab_cl ok_Re_parseLaw rfl [_, _] [] rfl ⟨_, _, rfl, rfl, Or.inl ⟨_, _, rfl, rfl⟩⟩ (Nat.le_of_ble_eq_true rfl) (t_Re_accept (d + 22) fm X s10 t hT10 hI10.1 (w := 266) (by decide) (by decide) _ rfl) ?_
            rintro _ _ ⟨rfl, s11, rfl, k11, hR11⟩
            show ab_Z m_Re_parseLaw _ _ _ 52 [_, _, _] [_] _
            have hI11 := hI10.acc (by decide) k11 hR11
            have hT11 := hT10.k k11.l.r (KRt.rf t)
            refine ab_go ok_Re_parseLaw 4 rfl ?_
            show ab_Z m_Re_parseLaw _ _ _ 56 [_, _, _] [_, _, _] _
            refine ab_cl ok_Re_parseLaw rfl [_, _, _] [] rfl ⟨_, _, rfl, rfl, Or.inl ⟨_, _, rfl, rfl⟩⟩ (Nat.le_of_ble_eq_true rfl) (sum1 s11 _ hT11 hI11) ?_
            rintro _ _ ⟨rfl, s12, rfl, k12, hR12, hZ12, hq12⟩
            show ab_Z m_Re_parseLaw _ _ _ 57 [_, _, _] [] _
            obtain ⟨p12, hp121, hp122⟩ := hI11.2.2.1
            refine ab_go ok_Re_parseLaw 1 rfl ?_
            show ab_Z m_Re_parseLaw _ _ _ 58 [_, _, _] [_] _
            refine ab_cl ok_Re_parseLaw rfl [_] [] rfl ⟨_, _, rfl, rfl, Or.inl ⟨_, _, rfl, rfl⟩⟩ (Nat.le_of_ble_eq_true rfl) (t_La_endPart_65 (d + 22) fm X s12 t hp121 ((k12 65 4 (by omega) (by omega) (by omega)).trans hp122)) ?_
            rintro _ _ ⟨rfl, rfl⟩
            show ab_Z m_Re_parseLaw _ _ _ 59 [_, _, _] [] _
            have hI13 := hI11.part (by decide) hT.2.2.1 hT.2.1 (fun q hq => by have := hl3 q hq; omega) k12 hR12 hZ12 hq12 hp121 hp122
            have k413 : KQ 65 s (enL s12 65 p12) := ((k410.tr k11.s.q).tr k12.q).tr (enL_k s12 65 p12)
            generalize enL s12 65 p12 = s13 at hI13 k413 ⊢
            have hT13 := hT.k (k413.r (by decide)) (KRt.rf t)
            refine ab_go ok_Re_parseLaw 2 rfl ?_
            show ab_Z m_Re_parseLaw _ _ _ 61 [_, _, _] [_, _] _
            refine ab_cl ok_Re_parseLaw rfl [_, _] [] rfl ⟨_, _, rfl, rfl, Or.inl ⟨_, _, rfl, rfl⟩⟩ (Nat.le_of_ble_eq_true rfl) (t_Re_accept (d + 22) fm X s13 t hT13 hI13.1 (w := 267) (by decide) (by decide) _ rfl) ?_
            rintro _ _ ⟨rfl, s14, rfl, k14, hR14⟩
            show ab_Z m_Re_parseLaw _ _ _ 62 [_, _, _] [_] _
            have hI14 := hI13.acc (by decide) k14 hR14
            refine ab_go ok_Re_parseLaw 3 rfl ?_
            show ab_Z m_Re_parseLaw _ _ _ 13 [_, _, _] [] _
            rw [← nI_succ]
            refine ih s14 _ (k413.tr k14.s.q) hI14 (fun a ha => ?_) (hFin _ rfl)
            obtain ⟨b, b1, b2⟩ := bnd_in ha
            obtain ⟨c, b3, b4⟩ := bnd_in b2
            cases b4
            obtain ⟨b', b5, b6⟩ := bnd_in b1
            obtain ⟨c', b7, b8⟩ := bnd_in b6
            cases b8
            have := hl3 b' b5
            simp only [List.length_append, List.length_singleton]
            omega
          refine ab_go ok_Re_parseLaw 2 rfl ?_
          show ab_Z m_Re_parseLaw _ _ _ 25 [_, _, _] [_, _] _
          refine ab_br ok_Re_parseLaw rfl rfl ?_ ?_
          · intro h3
            show ab_Z m_Re_parseLaw _ _ _ 26 [_, _, _] [] _
            have h3' : n = 4 := (nI_eq (b := 4) (by omega) (by decide)).mp h3
            have hFe2 : F = .inr (2, q.1) := by
              rw [← hFe, hZc, bnd_l, h3', Nat.sub_self, lawL, if_pos h2']
            refine ab_go ok_Re_parseLaw 2 rfl ?_
            show ab_Z m_Re_parseLaw _ _ _ 28 [_, _, _] [_, _] _
            refine ab_cl ok_Re_parseLaw rfl [_, _] [] rfl ⟨_, _, rfl, rfl, Or.inl ⟨_, _, rfl, rfl⟩⟩ (Nat.le_of_ble_eq_true rfl) (t_Re_fail (d + 22) fm X s3 t hI3.1 (c := 2) (by omega) _ rfl) ?_
            rintro _ _ ⟨rfl, s4, rfl, k4, hR4⟩
            show ab_Z m_Re_parseLaw _ _ _ 29 [_, _, _] [] _
            have hI4 : LwI s4 K 65 (.inr (2, q.1)) := by
              obtain ⟨-, u2, ⟨u3, u4, u5⟩, -⟩ := hI3
              rw [hZc] at hR4
              exact ⟨hR4, k4.z (by decide) u2, ⟨u3, u4, (k4 65 4 (by omega)).trans u5⟩, fun q hq => by cases hq⟩
            exact body s4 (.inr (2, q.1)) (k3.tr k4.s.q) hI4 (fun a ha => by cases ha) (fun a ha => by cases ha) (fun Zn hZn => by rw [← hZn, hFe2]; rfl)
          · intro h3
            show ab_Z m_Re_parseLaw _ _ _ 29 [_, _, _] [] _
            have h3' : n ≠ 4 := fun z => h3 (by rw [z]; rfl)
            refine body s3 Z k3 hI3 (fun a ha => by have := hlen a ha; omega) (fun a ha => by rw [hZc] at ha; cases ha; exact h2') (fun Zn hZn => ?_)
            rw [← hZn, ← hFe, hZc, show 4 - n = (4 - (n + 1)) + 1 by omega]
            simp only [bnd_l]
            rw [lawL, if_pos h2']
            unfold acZ ptZ
            rw [bnd_l, show eatT K 265 q.1 = goT q.1 from by unfold eatT; rw [if_pos h2']]
            cases goT q.1 with
            | inr e => rfl
            | inl t1 =>
              simp only [bnd_l]
              cases smT K v 6 t1 with
              | inr e => rfl
              | inl q1 =>
                simp only [bnd_l]
                cases eatT K 60 q1.1 with
                | inr e => rfl
                | inl t2 =>
                  simp only [bnd_l]
                  cases smT K v 6 t2 with
                  | inr e => rfl
                  | inl q2 =>
                    simp only [bnd_l]
                    cases eatT K 266 q2.1 with
                    | inr e => rfl
                    | inl t3 =>
                      simp only [bnd_l]
                      cases smT K v 6 t3 with
                      | inr e => rfl
                      | inl q3 =>
                        simp only [bnd_l]
                        cases eatT K 267 q3.1 with
                        | inr e => rfl
                        | inl t4 =>
                          simp only [bnd_l]
                          rw [List.append_assoc, List.append_assoc]
                          rfl
        · intro h2
          show ab_Z m_Re_parseLaw _ _ _ 65 [_, _, _] [] _
          exact last (fun a ha => by rw [hZc] at ha; cases ha; exact fun z => h2 (by rw [z]; rfl))
theorem t_La_clear_69 : ab_T g_La_clear d (0, 0) [.ref 69] (HA fm X s t) (PV (HA fm X (ab_up (ab_up s 69 3 0) 69 4 0) t)) := by
  refine ab_T_of (M := m_La_clear) rfl rfl (Nat.le_of_ble_eq_true rfl) ?_
  show ab_Z m_La_clear _ _ _ 0 [_] [] _
  refine ab_go ok_La_clear 6 rfl ?_
  show ab_Z m_La_clear _ _ _ 6 [_] [] _
  exact ab_rV ok_La_clear rfl (⟨rfl, rfl⟩)
theorem t_La_endPart_69 {q : Nat} (hq : q ≤ 13) (h : s 69 4 = nI q) : ab_T g_La_endPart d (0, 0) [.ref 69] (HA fm X s t) (PV (HA fm X (enL s 69 q) t)) := by
  unfold enL
  refine ab_T_of (M := m_La_endPart) rfl rfl (Nat.le_of_ble_eq_true rfl) ?_
  show ab_Z m_La_endPart _ _ _ 0 [_] [] _
  refine ab_go ok_La_endPart 2 rfl ?_
  show ab_Z m_La_endPart _ _ _ 2 [_] [_] _
  rw [h]
  refine ab_br ok_La_endPart rfl rfl ?_ ?_
  · intro h0
    show ab_Z m_La_endPart _ _ _ 22 [_] [] _
    exact absurd h0 (nI_l0 (by omega))
  · intro h0
    show ab_Z m_La_endPart _ _ _ 3 [_] [] _
    refine ab_go ok_La_endPart 5 rfl ?_
    show ab_Z m_La_endPart _ _ _ 8 [_] [_, _] _
    rw [h]
    refine ab_br ok_La_endPart rfl rfl ?_ ?_
    · intro h1
      show ab_Z m_La_endPart _ _ _ 22 [_] [] _
      have h1' := (nI_leI (show 13 < 2 ^ 31 by decide) (show q < 2 ^ 31 by omega)).mp h1
      exact ab_rV ok_La_endPart rfl (⟨rfl, by rw [if_neg (by omega)]⟩)
    · intro h1
      show ab_Z m_La_endPart _ _ _ 9 [_] [] _
      have h1' : q < 13 := by
        rcases Nat.lt_or_ge q 13 with z | z
        · exact z
        · exact absurd ((nI_leI (show 13 < 2 ^ 31 by decide) (show q < 2 ^ 31 by omega)).mpr z) h1
      rw [if_pos h1']
      refine ab_go ok_La_endPart 6 rfl ?_
      show ab_Z m_La_endPart _ _ _ 15 [_] [_, _, _] _
      rw [h]
      refine ab_is ok_La_endPart rfl rfl (k := q) (by first | rfl | (simp only [LL1, LL2, LL3, LL4, LL5, LL6, LL7, LL8, LL10, LL15, LL18, LL20, LL21, LL22, LL23, LL24, LL32, LL39, LL40, LL130, LL420, pk_mul, nI_add]; done) | (simp only [LL1, LL2, LL3, LL4, LL5, LL6, LL7, LL8, LL10, LL15, LL18, LL20, LL21, LL22, LL23, LL24, LL32, LL39, LL40, LL130, LL420, pk_mul, nI_add]; congr 1; omega)) (by omega) (Nat.le_of_ble_eq_true rfl) ?_
      show ab_Z m_La_endPart _ _ _ 16 [_] [] _
      refine ab_go ok_La_endPart 6 rfl ?_
      show ab_Z m_La_endPart _ _ _ 22 [_] [] _
      rw [show ab_up s 71 q (s 69 3) 69 4 = nI q from by rw [ab_up_o (by decide)]; exact h, ← nI_succ]
      exact ab_rV ok_La_endPart rfl (⟨rfl, rfl⟩)
theorem t_La_setTo_69 (e : Ins) (x : Int32) (hx : x = encI e) (he : okQ [e] 0) : ab_T g_La_setTo (d + 1) (0, 0) [.ref 69, .int x] (HA fm X s t) (fun r h => r = none ∧ ∃ s', h = HA fm X s' t ∧ KQ 69 s s' ∧ CLaw s' 69 [[e]]) := by
  subst hx
  refine ab_T_of (M := m_La_setTo) rfl rfl (Nat.le_of_ble_eq_true rfl) ?_
  show ab_Z m_La_setTo _ _ _ 0 [_, _] [] _
  refine ab_go ok_La_setTo 1 rfl ?_
  show ab_Z m_La_setTo _ _ _ 1 [_, _] [_] _
  refine ab_cl ok_La_setTo rfl [_] [] rfl ⟨_, _, rfl, rfl, Or.inl ⟨_, _, rfl, rfl⟩⟩ (Nat.le_of_ble_eq_true rfl) (t_La_clear_69 d fm X s t) ?_
  rintro _ _ ⟨rfl, rfl⟩
  show ab_Z m_La_setTo _ _ _ 2 [_, _] [] _
  refine ab_go ok_La_setTo 2 rfl ?_
  show ab_Z m_La_setTo _ _ _ 4 [_, _] [_, _] _
  refine ab_cl ok_La_setTo rfl [_, _] [] rfl ⟨_, _, rfl, rfl, Or.inl ⟨_, _, rfl, rfl⟩⟩ (Nat.le_of_ble_eq_true rfl) (t_La_add_69 d fm X _ t (z := 0) (by decide) (by rw [ab_up_n (by decide), ab_up_s]; rfl) _) ?_
  rintro _ _ ⟨rfl, rfl⟩
  show ab_Z m_La_setTo _ _ _ 5 [_, _] [] _
  refine ab_go ok_La_setTo 1 rfl ?_
  show ab_Z m_La_setTo _ _ _ 6 [_, _] [_] _
  have h4 : adL (ab_up (ab_up s 69 3 0) 69 4 0) 69 0 (encI e) 69 4 = nI 0 := by
    unfold adL
    rw [if_pos (by decide), ab_up_n (by decide), ab_up_o (by decide), ab_up_s]
    rfl
  refine ab_cl ok_La_setTo rfl [_] [] rfl ⟨_, _, rfl, rfl, Or.inl ⟨_, _, rfl, rfl⟩⟩ (Nat.le_of_ble_eq_true rfl) (t_La_endPart_69 d fm X _ t (q := 0) (by decide) h4) ?_
  rintro _ _ ⟨rfl, rfl⟩
  show ab_Z m_La_setTo _ _ _ 7 [_, _] [] _
  have k0 : KQ 69 s (ab_up (ab_up s 69 3 0) 69 4 0) := fun c k _ _ _ h => by
    by_cases hc : c = 69
    · subst hc
      rw [ab_up_n (fun z => h ⟨rfl, Or.inr z⟩), ab_up_n (fun z => h ⟨rfl, Or.inl z⟩)]
    · rw [ab_up_o hc, ab_up_o hc]
  have hL : LwC (adL (ab_up (ab_up s 69 3 0) 69 4 0) 69 0 (encI e)) 69 [e] := adL_c (Q := []) (by decide) ⟨by rw [ab_up_n (by decide), ab_up_s]; rfl, fun j q h => by simp at h⟩
  have hC : CLaw (enL (adL (ab_up (ab_up s 69 3 0) 69 4 0) 69 0 (encI e)) 69 0) 69 [[e]] := by
    refine ⟨?_, show 1 ≤ 1 by decide, show 1 ≤ 13 by decide, show 1 ≤ 400 by decide, fun i hi => ?_, fun i Q hi j q hj => ?_, fun Q hQ => ?_⟩
    · unfold enL
      rw [if_pos (by decide), ab_up_s]
      rfl
    · have h0 : i = 0 := by simpa using hi
      subst h0
      unfold enL
      rw [if_pos (by decide), ab_up_o (by decide), ab_up_s]
      exact hL.1
    · have := fl_get hi hj
      have h5 := hL.2 (ofL [[e]] i + j) q this
      unfold enL
      rw [if_pos (by decide), ab_up_o (by decide), ab_up_o (by decide)]
      exact h5
    · rw [List.mem_singleton.mp hQ]; exact he
  exact ab_rV ok_La_setTo rfl (⟨rfl, _, rfl, (k0.tr (adL_k _ 69 0 (encI e)).q).tr (enL_k _ 69 0), hC⟩)
theorem t_Re_parseLaw_69 (hT : TC s t K P v nm) {n0 : Nat} (hR : Rd s K (.inl n0)) (hK0 : K n0 = 260) : ab_T g_Re_parseLaw (d + 23) (0, 0) [.ref 8, .ref 69] (HA fm X s t) (PLa fm X s t K 69 (lawT K v n0)) := by
  obtain ⟨F, hF⟩ : ∃ F, F = lawT K v n0 := ⟨_, rfl⟩
  rw [← hF]
  generalize hPo : PLa fm X s t K 69 F = Po
  have hFlen : ∀ q, F = .inl q → 1 ≤ q.2.length ∧ q.2.length ≤ 13 := fun q hq => by
    rw [hF] at hq
    obtain ⟨t1, b1, b2⟩ := bnd_in hq
    obtain ⟨t2, b3, b4⟩ := bnd_in b2
    have := lawL_len 4 t2 [] q b4
    simp only [List.length_nil] at this
    omega
  have sum1 : ∀ s1 Z, TC s1 t K P v nm → LwI s1 K 69 Z → ab_T g_Re_parseSum (d + 22) (0, 0) [.ref 8, .ref 69, .int 0] (HA fm X s1 t) (fun r h => r = none ∧ ∃ s2, h = HA fm X s2 t ∧ KS 69 s1 s2 ∧ Rd s2 K (mpT Prod.fst (bnd (mpT Prod.fst Z) (smT K v 6))) ∧ LwZ s2 69 ∧ ∀ a q, Z = .inl a → smT K v 6 a.1 = .inl q → LwC s2 69 (a.2.flatten ++ q.2)) := by
    intro s1 Z hT1 hI
    have hc := (t_exp_69 fm X t (K := K) (P := P) (v := v) (nm := nm) 6 (Nat.le_refl _) d).2 s1 (mpT Prod.fst Z) (flZ Z) hT1 hI.1 (fun n hn => by
      cases Z with
      | inr e => cases hn
      | inl q => cases hn; exact ⟨(hI.2.2.2 q rfl).1, (hI.2.2.2 q rfl).2.1⟩) hI.2.1
    refine ab_T_mono hc fun r h hp => ?_
    obtain ⟨rfl, s2, rfl, k2, hR2, hZ2, hq2⟩ := hp
    refine ⟨rfl, s2, rfl, k2, hR2, hZ2, fun a q ha hq => ?_⟩
    have := hq2 q (by rw [ha]; exact hq)
    rw [ha] at this
    exact this
  refine ab_T_of (M := m_Re_parseLaw) rfl rfl (Nat.le_of_ble_eq_true rfl) ?_
  show ab_Z m_Re_parseLaw _ _ _ 0 [_, _, _] [] _
  refine ab_go ok_Re_parseLaw 1 rfl ?_
  show ab_Z m_Re_parseLaw _ _ _ 1 [_, _, _] [_] _
  refine ab_cl ok_Re_parseLaw rfl [_] [] rfl ⟨_, _, rfl, rfl, Or.inl ⟨_, _, rfl, rfl⟩⟩ (Nat.le_of_ble_eq_true rfl) (t_La_clear_69 (d + 22) fm X s t) ?_
  rintro _ _ ⟨rfl, rfl⟩
  show ab_Z m_Re_parseLaw _ _ _ 2 [_, _, _] [] _
  have kc : KQ 69 s (ab_up (ab_up s 69 3 0) 69 4 0) := fun c k _ _ _ h => by
    by_cases hc : c = 69
    · subst hc
      rw [ab_up_n (fun z => h ⟨rfl, Or.inr z⟩), ab_up_n (fun z => h ⟨rfl, Or.inl z⟩)]
    · rw [ab_up_o hc, ab_up_o hc]
  have hTc := hT.k (kc.r (by decide)) (KRt.rf t)
  have c8 : ∀ j, ab_up (ab_up s 69 3 0) 69 4 0 8 j = s 8 j := fun j => by rw [ab_up_o (by decide), ab_up_o (by decide)]
  have hRc : Rd (ab_up (ab_up s 69 3 0) 69 4 0) K (.inl n0) := hR.of (c8 1) (c8 2) (c8 3)
  have hIc : LwI (ab_up (ab_up s 69 3 0) 69 4 0) K 69 (.inl (n0, [])) := by
    have h3 : ab_up (ab_up s 69 3 0) 69 4 0 69 3 = nI 0 := by rw [ab_up_n (by decide), ab_up_s]; rfl
    refine ⟨hRc, ⟨0, by decide, h3⟩, ⟨0, by decide, ab_up_s ..⟩, fun q hq => ?_⟩
    cases hq
    exact ⟨⟨h3, fun j q h => by simp at h⟩, Nat.zero_le _, ab_up_s .., fun i hi => absurd hi (by simp), fun Q hQ => by simp at hQ⟩
  generalize ab_up (ab_up s 69 3 0) 69 4 0 = s0 at kc hTc hRc hIc
  refine ab_go ok_Re_parseLaw 3 rfl ?_
  show ab_Z m_Re_parseLaw _ _ _ 5 [_, _, _] [_, _] _
  rw [hRc.2.1, hK0]
  refine ab_cl ok_Re_parseLaw rfl [_, _] [] rfl ⟨_, _, rfl, rfl, Or.inl ⟨_, _, rfl, rfl⟩⟩ (Nat.le_of_ble_eq_true rfl) (t_Re_accept (d + 22) fm X s0 t hTc hIc.1 (w := 260) (by decide) (by decide) _ rfl) ?_
  rintro _ _ ⟨rfl, s1, rfl, k1, hR1⟩
  show ab_Z m_Re_parseLaw _ _ _ 6 [_, _, _] [_] _
  have hI1 := hIc.acc (by decide) k1 hR1
  have hT1 := hTc.k k1.l.r (KRt.rf t)
  refine ab_go ok_Re_parseLaw 3 rfl ?_
  show ab_Z m_Re_parseLaw _ _ _ 9 [_, _, _] [_, _] _
  refine ab_cl ok_Re_parseLaw rfl [_, _] [] rfl ⟨_, _, rfl, rfl, Or.inl ⟨_, _, rfl, rfl⟩⟩ (Nat.le_of_ble_eq_true rfl) (t_Re_accept (d + 22) fm X s1 t hT1 hI1.1 (w := 61) (by decide) (by decide) _ rfl) ?_
  rintro _ _ ⟨rfl, s2, rfl, k2, hR2⟩
  show ab_Z m_Re_parseLaw _ _ _ 10 [_, _, _] [_] _
  have hI2 := hI1.acc (by decide) k2 hR2
  have hT2 := hT1.k k2.l.r (KRt.rf t)
  refine ab_go ok_Re_parseLaw 3 rfl ?_
  show ab_Z m_Re_parseLaw _ _ _ 13 [_, _, _] [] _
  have main := lp_dn 5 (fun n => ∀ s3 Z, KQ 69 s s3 → LwI s3 K 69 Z → (∀ q, Z = .inl q → q.2.length = 3 * n ∧ n ≤ 4) → (bnd Z fun q => lawL K v (4 - n) q.1 q.2) = F → ab_Z m_Re_parseLaw (d + 23) (0, 0) Po 13 [some (.ref 8), some (.ref 69), some (.int (nI n))] [] (HA fm X s3 t)) ?_ ?_
  · refine main s2 _ ((kc.tr k1.s.q).tr k2.s.q) hI2 (fun q hq => ?_) ?_
    · obtain ⟨a, b1, b2⟩ := bnd_in hq
      obtain ⟨a2, b3, b4⟩ := bnd_in b2
      cases b4
      obtain ⟨a3, b5, b6⟩ := bnd_in b1
      cases b5
      obtain ⟨a4, b7, b8⟩ := bnd_in b6
      cases b8
      exact ⟨rfl, by decide⟩
    · rw [hF]
      unfold acZ lawT
      rw [bnd_l, show eatT K 260 (n0, ([] : List (List Ins))).1 = goT n0 from by unfold eatT; rw [if_pos hK0]]
      cases goT n0 with
      | inr e => rfl
      | inl t1 =>
        simp only [bnd_l]
        cases eatT K 61 t1 <;> rfl
  · intro s3 Z k3 hI3 hlen hFe
    cases hZc : Z with
    | inl q => have := (hlen q hZc).2; omega
    | inr e =>
      rw [hZc] at hI3 hFe
      have hT3 := hT.k (k3.r (by decide)) (KRt.rf t)
      obtain ⟨q0, hq1, hq2⟩ := hI3.2.2.1
      refine ab_go ok_Re_parseLaw 2 rfl ?_
      show ab_Z m_Re_parseLaw _ _ _ 15 [_, _, _] [_, _] _
      refine ab_go ok_Re_parseLaw 1 rfl ?_
      show ab_Z m_Re_parseLaw _ _ _ 65 [_, _, _] [] _
      refine ab_go ok_Re_parseLaw 3 rfl ?_
      show ab_Z m_Re_parseLaw _ _ _ 68 [_, _, _] [_, _, _] _
      refine ab_cl ok_Re_parseLaw rfl [_, _, _] [] rfl ⟨_, _, rfl, rfl, Or.inl ⟨_, _, rfl, rfl⟩⟩ (Nat.le_of_ble_eq_true rfl) (sum1 s3 (.inr e) hT3 hI3) ?_
      rintro _ _ ⟨rfl, s4, rfl, k4, hR4, hZ4, -⟩
      show ab_Z m_Re_parseLaw _ _ _ 69 [_, _, _] [] _
      refine ab_go ok_Re_parseLaw 1 rfl ?_
      show ab_Z m_Re_parseLaw _ _ _ 70 [_, _, _] [_] _
      refine ab_cl ok_Re_parseLaw rfl [_] [] rfl ⟨_, _, rfl, rfl, Or.inl ⟨_, _, rfl, rfl⟩⟩ (Nat.le_of_ble_eq_true rfl) (t_La_endPart_69 (d + 22) fm X s4 t hq1 ((k4 69 4 (by omega) (by omega) (by omega)).trans hq2)) ?_
      rintro _ _ ⟨rfl, rfl⟩
      show ab_Z m_Re_parseLaw _ _ _ 71 [_, _, _] [] _
      have fin : Po none (HA fm X (enL s4 69 q0) t) := by
        rw [← hPo, ← hFe]
        refine ⟨rfl, _, rfl, (k3.tr k4.q).tr (enL_k s4 69 q0), ?_, fun q hq => by cases hq⟩
        have e8 : ∀ j, enL s4 69 q0 8 j = s4 8 j := fun j => by
          unfold enL
          split
          · rw [ab_up_o (by decide), ab_up_o (by decide)]
          · rfl
        exact hR4.of (e8 1) (e8 2) (e8 3)
      exact ab_rV ok_Re_parseLaw rfl (fin)
  · intro n hn ih s3 Z k3 hI3 hlen hFe
    have hT3 := hT.k (k3.r (by decide)) (KRt.rf t)
    have last : (∀ q, Z = .inl q → K q.1 ≠ 265) → ab_Z m_Re_parseLaw (d + 23) (0, 0) Po 65 [some (.ref 8), some (.ref 69), some (.int (nI n))] [] (HA fm X s3 t) := by
      intro hk
      obtain ⟨q0, hq1, hq2⟩ := hI3.2.2.1
      have hFZ : F = ptZ K v Z := by
        rw [← hFe]
        unfold ptZ
        refine bnd_cg (fun q hq => ?_)
        have h0 := hk q hq
        cases hn4 : 4 - n with
        | zero => rw [lawL, if_neg h0]
        | succ m => rw [lawL, if_neg h0]
      refine ab_go ok_Re_parseLaw 3 rfl ?_
      show ab_Z m_Re_parseLaw _ _ _ 68 [_, _, _] [_, _, _] _
      refine ab_cl ok_Re_parseLaw rfl [_, _, _] [] rfl ⟨_, _, rfl, rfl, Or.inl ⟨_, _, rfl, rfl⟩⟩ (Nat.le_of_ble_eq_true rfl) (sum1 s3 Z hT3 hI3) ?_
      rintro _ _ ⟨rfl, s4, rfl, k4, hR4, hZ4, hq4⟩
      show ab_Z m_Re_parseLaw _ _ _ 69 [_, _, _] [] _
      refine ab_go ok_Re_parseLaw 1 rfl ?_
      show ab_Z m_Re_parseLaw _ _ _ 70 [_, _, _] [_] _
      refine ab_cl ok_Re_parseLaw rfl [_] [] rfl ⟨_, _, rfl, rfl, Or.inl ⟨_, _, rfl, rfl⟩⟩ (Nat.le_of_ble_eq_true rfl) (t_La_endPart_69 (d + 22) fm X s4 t hq1 ((k4 69 4 (by omega) (by omega) (by omega)).trans hq2)) ?_
      rintro _ _ ⟨rfl, rfl⟩
      show ab_Z m_Re_parseLaw _ _ _ 71 [_, _, _] [] _
      have hI5 := hI3.part (by decide) hT.2.2.1 hT.2.1 (fun q hq => by have := hlen q hq; omega) k4 hR4 hZ4 hq4 hq1 hq2
      have fin : Po none (HA fm X (enL s4 69 q0) t) := by
        rw [← hPo]
        refine ⟨rfl, _, rfl, (k3.tr k4.q).tr (enL_k s4 69 q0), by rw [hFZ]; exact hI5.1, fun q hq => ?_⟩
        have hl := hFlen q hq
        rw [hFZ] at hq
        exact hI5.law hq hl.1 hl.2
      exact ab_rV ok_Re_parseLaw rfl (fin)
    refine ab_go ok_Re_parseLaw 2 rfl ?_
    show ab_Z m_Re_parseLaw _ _ _ 15 [_, _, _] [_, _] _
    refine ab_br ok_Re_parseLaw rfl rfl ?_ ?_
    · intro h1
      show ab_Z m_Re_parseLaw _ _ _ 65 [_, _, _] [] _
      have := i_ltK (z := 4) rfl h1
      rw [nI_t (by omega)] at this
      omega
    · intro h1
      show ab_Z m_Re_parseLaw _ _ _ 16 [_, _, _] [] _
      refine ab_go ok_Re_parseLaw 2 rfl ?_
      show ab_Z m_Re_parseLaw _ _ _ 18 [_, _, _] [_] _
      cases hZc : Z with
      | inr e =>
        have hI3' := hI3
        rw [hZc] at hI3'
        obtain ⟨⟨a1, a2, a3, a4⟩, -⟩ := hI3'
        rw [a2]
        refine ab_br ok_Re_parseLaw rfl rfl ?_ ?_
        · intro h2
          show ab_Z m_Re_parseLaw _ _ _ 19 [_, _, _] [] _
          exact absurd h2 (nI_ne0 (by omega) (by omega))
        · intro h2
          show ab_Z m_Re_parseLaw _ _ _ 65 [_, _, _] [] _
          exact last (fun q hq => by rw [hZc] at hq; cases hq)
      | inl q =>
        have hI3' := hI3
        rw [hZc] at hI3'
        obtain ⟨⟨a1, a2, a3, a4⟩, -⟩ := hI3'
        have hKq := hT.2.1 q.1
        have hlq := hlen q hZc
        rw [a3]
        refine ab_go ok_Re_parseLaw 1 rfl ?_
        show ab_Z m_Re_parseLaw _ _ _ 19 [_, _, _] [] _
        refine ab_go ok_Re_parseLaw 3 rfl ?_
        show ab_Z m_Re_parseLaw _ _ _ 22 [_, _, _] [_, _] _
        rw [show s3 8 2 = nI (K q.1) from a2]
        refine ab_br ok_Re_parseLaw rfl rfl ?_ ?_
        · intro h2
          show ab_Z m_Re_parseLaw _ _ _ 23 [_, _, _] [] _
          have h2' : K q.1 = 265 := (nI_eq (b := 265) (by omega) (by decide)).mp h2
          -- Z1: behind the word
          have body : ∀ s4 Z0, KQ 69 s s4 → LwI s4 K 69 Z0 → (∀ a, Z0 = .inl a → a.2.length = 3 * n ∧ n ≤ 3) → (∀ a, Z0 = .inl a → K a.1 = 265) → (∀ Zn, (bnd (acZ K 267 (ptZ K v (acZ K 266 (ptZ K v (acZ K 60 (ptZ K v (acZ K 265 Z0))))))) fun q => lawL K v (4 - (n + 1)) q.1 q.2) = Zn → Zn = F) → ab_Z m_Re_parseLaw (d + 23) (0, 0) Po 29 [some (.ref 8), some (.ref 69), some (.int (nI n))] [] (HA fm X s4 t) := by
            intro s4 Z0 k4 hI4 hl0 hk0 hFin
            have hT4 := hT.k (k4.r (by decide)) (KRt.rf t)
            have hl1 : ∀ a, acZ K 265 Z0 = .inl a → a.2.length = 3 * n ∧ n ≤ 3 := fun a ha => by
              obtain ⟨b, b1, b2⟩ := bnd_in ha
              obtain ⟨c, b3, b4⟩ := bnd_in b2
              cases b4
              exact hl0 b b1
            have hl2 : ∀ a, acZ K 60 (ptZ K v (acZ K 265 Z0)) = .inl a → a.2.length = 3 * n + 1 ∧ n ≤ 3 := fun a ha => by
              obtain ⟨b, b1, b2⟩ := bnd_in ha
              obtain ⟨c, b3, b4⟩ := bnd_in b2
              cases b4
              obtain ⟨b', b5, b6⟩ := bnd_in b1
              obtain ⟨c', b7, b8⟩ := bnd_in b6
              cases b8
              have := hl1 b' b5
              simp only [List.length_append, List.length_singleton]
              omega
            have hl3 : ∀ a, acZ K 266 (ptZ K v (acZ K 60 (ptZ K v (acZ K 265 Z0)))) = .inl a → a.2.length = 3 * n + 2 ∧ n ≤ 3 := fun a ha => by
              obtain ⟨b, b1, b2⟩ := bnd_in ha
              obtain ⟨c, b3, b4⟩ := bnd_in b2
              cases b4
              obtain ⟨b', b5, b6⟩ := bnd_in b1
              obtain ⟨c', b7, b8⟩ := bnd_in b6
              cases b8
              have := hl2 b' b5
              simp only [List.length_append, List.length_singleton]
              omega
            refine ab_go ok_Re_parseLaw 2 rfl ?_
            show ab_Z m_Re_parseLaw _ _ _ 31 [_, _, _] [_, _] _
            refine ab_cl ok_Re_parseLaw rfl [_, _] [] rfl ⟨_, _, rfl, rfl, Or.inl ⟨_, _, rfl, rfl⟩⟩ (Nat.le_of_ble_eq_true rfl) (t_Re_accept (d + 22) fm X s4 t hT4 hI4.1 (w := 265) (by decide) (by decide) _ rfl) ?_
            rintro _ _ ⟨rfl, s5, rfl, k5, hR5⟩
            show ab_Z m_Re_parseLaw _ _ _ 32 [_, _, _] [_] _
            have hI5 := hI4.acc (by decide) k5 hR5
            have hT5 := hT4.k k5.l.r (KRt.rf t)
            refine ab_go ok_Re_parseLaw 4 rfl ?_
            show ab_Z m_Re_parseLaw _ _ _ 36 [_, _, _] [_, _, _] _
            refine ab_cl ok_Re_parseLaw rfl [_, _, _] [] rfl ⟨_, _, rfl, rfl, Or.inl ⟨_, _, rfl, rfl⟩⟩ (Nat.le_of_ble_eq_true rfl) (sum1 s5 _ hT5 hI5) ?_
            rintro _ _ ⟨rfl, s6, rfl, k6, hR6, hZ6, hq6⟩
            show ab_Z m_Re_parseLaw _ _ _ 37 [_, _, _] [] _
            obtain ⟨p6, hp61, hp62⟩ := hI5.2.2.1
            refine ab_go ok_Re_parseLaw 1 rfl ?_
            show ab_Z m_Re_parseLaw _ _ _ 38 [_, _, _] [_] _
            refine ab_cl ok_Re_parseLaw rfl [_] [] rfl ⟨_, _, rfl, rfl, Or.inl ⟨_, _, rfl, rfl⟩⟩ (Nat.le_of_ble_eq_true rfl) (t_La_endPart_69 (d + 22) fm X s6 t hp61 ((k6 69 4 (by omega) (by omega) (by omega)).trans hp62)) ?_
            rintro _ _ ⟨rfl, rfl⟩
            show ab_Z m_Re_parseLaw _ _ _ 39 [_, _, _] [] _
            have hI7 := hI5.part (by decide) hT.2.2.1 hT.2.1 (fun q hq => by have := hl1 q hq; omega) k6 hR6 hZ6 hq6 hp61 hp62
            have k47 : KQ 69 s (enL s6 69 p6) := ((k4.tr k5.s.q).tr k6.q).tr (enL_k s6 69 p6)
            generalize enL s6 69 p6 = s7 at hI7 k47 ⊢
            have hT7 := hT.k (k47.r (by decide)) (KRt.rf t)
            refine ab_go ok_Re_parseLaw 2 rfl ?_
            show ab_Z m_Re_parseLaw _ _ _ 41 [_, _, _] [_, _] _
            refine ab_cl ok_Re_parseLaw rfl [_, _] [] rfl ⟨_, _, rfl, rfl, Or.inl ⟨_, _, rfl, rfl⟩⟩ (Nat.le_of_ble_eq_true rfl) (t_Re_accept (d + 22) fm X s7 t hT7 hI7.1 (w := 60) (by decide) (by decide) _ rfl) ?_
            rintro _ _ ⟨rfl, s8, rfl, k8, hR8⟩
            show ab_Z m_Re_parseLaw _ _ _ 42 [_, _, _] [_] _
            have hI8 := hI7.acc (by decide) k8 hR8
            have hT8 := hT7.k k8.l.r (KRt.rf t)
            refine ab_go ok_Re_parseLaw 4 rfl ?_
            show ab_Z m_Re_parseLaw _ _ _ 46 [_, _, _] [_, _, _] _
            refine ab_cl ok_Re_parseLaw rfl [_, _, _] [] rfl ⟨_, _, rfl, rfl, Or.inl ⟨_, _, rfl, rfl⟩⟩ (Nat.le_of_ble_eq_true rfl) (sum1 s8 _ hT8 hI8) ?_
            rintro _ _ ⟨rfl, s9, rfl, k9, hR9, hZ9, hq9⟩
            show ab_Z m_Re_parseLaw _ _ _ 47 [_, _, _] [] _
            obtain ⟨p9, hp91, hp92⟩ := hI8.2.2.1
            refine ab_go ok_Re_parseLaw 1 rfl ?_
            show ab_Z m_Re_parseLaw _ _ _ 48 [_, _, _] [_] _
            refine ab_cl ok_Re_parseLaw rfl [_] [] rfl ⟨_, _, rfl, rfl, Or.inl ⟨_, _, rfl, rfl⟩⟩ (Nat.le_of_ble_eq_true rfl) (t_La_endPart_69 (d + 22) fm X s9 t hp91 ((k9 69 4 (by omega) (by omega) (by omega)).trans hp92)) ?_
            rintro _ _ ⟨rfl, rfl⟩
            show ab_Z m_Re_parseLaw _ _ _ 49 [_, _, _] [] _
            have hI10 := hI8.part (by decide) hT.2.2.1 hT.2.1 (fun q hq => by have := hl2 q hq; omega) k9 hR9 hZ9 hq9 hp91 hp92
            have k410 : KQ 69 s (enL s9 69 p9) := ((k47.tr k8.s.q).tr k9.q).tr (enL_k s9 69 p9)
            generalize enL s9 69 p9 = s10 at hI10 k410 ⊢
            have hT10 := hT.k (k410.r (by decide)) (KRt.rf t)
            refine ab_go ok_Re_parseLaw 2 rfl ?_
            show ab_Z m_Re_parseLaw _ _ _ 51 [_, _, _] [_, _] _
            refine ab_cl ok_Re_parseLaw rfl [_, _] [] rfl ⟨_, _, rfl, rfl, Or.inl ⟨_, _, rfl, rfl⟩⟩ (Nat.le_of_ble_eq_true rfl) (t_Re_accept (d + 22) fm X s10 t hT10 hI10.1 (w := 266) (by decide) (by decide) _ rfl) ?_
            rintro _ _ ⟨rfl, s11, rfl, k11, hR11⟩
            show ab_Z m_Re_parseLaw _ _ _ 52 [_, _, _] [_] _
            have hI11 := hI10.acc (by decide) k11 hR11
            have hT11 := hT10.k k11.l.r (KRt.rf t)
            refine ab_go ok_Re_parseLaw 4 rfl ?_
            show ab_Z m_Re_parseLaw _ _ _ 56 [_, _, _] [_, _, _] _
            refine ab_cl ok_Re_parseLaw rfl [_, _, _] [] rfl ⟨_, _, rfl, rfl, Or.inl ⟨_, _, rfl, rfl⟩⟩ (Nat.le_of_ble_eq_true rfl) (sum1 s11 _ hT11 hI11) ?_
            rintro _ _ ⟨rfl, s12, rfl, k12, hR12, hZ12, hq12⟩
            show ab_Z m_Re_parseLaw _ _ _ 57 [_, _, _] [] _
            obtain ⟨p12, hp121, hp122⟩ := hI11.2.2.1
            refine ab_go ok_Re_parseLaw 1 rfl ?_
            show ab_Z m_Re_parseLaw _ _ _ 58 [_, _, _] [_] _
            refine ab_cl ok_Re_parseLaw rfl [_] [] rfl ⟨_, _, rfl, rfl, Or.inl ⟨_, _, rfl, rfl⟩⟩ (Nat.le_of_ble_eq_true rfl) (t_La_endPart_69 (d + 22) fm X s12 t hp121 ((k12 69 4 (by omega) (by omega) (by omega)).trans hp122)) ?_
            rintro _ _ ⟨rfl, rfl⟩
            show ab_Z m_Re_parseLaw _ _ _ 59 [_, _, _] [] _
            have hI13 := hI11.part (by decide) hT.2.2.1 hT.2.1 (fun q hq => by have := hl3 q hq; omega) k12 hR12 hZ12 hq12 hp121 hp122
            have k413 : KQ 69 s (enL s12 69 p12) := ((k410.tr k11.s.q).tr k12.q).tr (enL_k s12 69 p12)
            generalize enL s12 69 p12 = s13 at hI13 k413 ⊢
            have hT13 := hT.k (k413.r (by decide)) (KRt.rf t)
            refine ab_go ok_Re_parseLaw 2 rfl ?_
            show ab_Z m_Re_parseLaw _ _ _ 61 [_, _, _] [_, _] _
            refine ab_cl ok_Re_parseLaw rfl [_, _] [] rfl ⟨_, _, rfl, rfl, Or.inl ⟨_, _, rfl, rfl⟩⟩ (Nat.le_of_ble_eq_true rfl) (t_Re_accept (d + 22) fm X s13 t hT13 hI13.1 (w := 267) (by decide) (by decide) _ rfl) ?_
            rintro _ _ ⟨rfl, s14, rfl, k14, hR14⟩
            show ab_Z m_Re_parseLaw _ _ _ 62 [_, _, _] [_] _
            have hI14 := hI13.acc (by decide) k14 hR14
            refine ab_go ok_Re_parseLaw 3 rfl ?_
            show ab_Z m_Re_parseLaw _ _ _ 13 [_, _, _] [] _
            rw [← nI_succ]
            refine ih s14 _ (k413.tr k14.s.q) hI14 (fun a ha => ?_) (hFin _ rfl)
            obtain ⟨b, b1, b2⟩ := bnd_in ha
            obtain ⟨c, b3, b4⟩ := bnd_in b2
            cases b4
            obtain ⟨b', b5, b6⟩ := bnd_in b1
            obtain ⟨c', b7, b8⟩ := bnd_in b6
            cases b8
            have := hl3 b' b5
            simp only [List.length_append, List.length_singleton]
            omega
          refine ab_go ok_Re_parseLaw 2 rfl ?_
          show ab_Z m_Re_parseLaw _ _ _ 25 [_, _, _] [_, _] _
          refine ab_br ok_Re_parseLaw rfl rfl ?_ ?_
          · intro h3
            show ab_Z m_Re_parseLaw _ _ _ 26 [_, _, _] [] _
            have h3' : n = 4 := (nI_eq (b := 4) (by omega) (by decide)).mp h3
            have hFe2 : F = .inr (2, q.1) := by
              rw [← hFe, hZc, bnd_l, h3', Nat.sub_self, lawL, if_pos h2']
            refine ab_go ok_Re_parseLaw 2 rfl ?_
            show ab_Z m_Re_parseLaw _ _ _ 28 [_, _, _] [_, _] _
            refine ab_cl ok_Re_parseLaw rfl [_, _] [] rfl ⟨_, _, rfl, rfl, Or.inl ⟨_, _, rfl, rfl⟩⟩ (Nat.le_of_ble_eq_true rfl) (t_Re_fail (d + 22) fm X s3 t hI3.1 (c := 2) (by omega) _ rfl) ?_
            rintro _ _ ⟨rfl, s4, rfl, k4, hR4⟩
            show ab_Z m_Re_parseLaw _ _ _ 29 [_, _, _] [] _
            have hI4 : LwI s4 K 69 (.inr (2, q.1)) := by
              obtain ⟨-, u2, ⟨u3, u4, u5⟩, -⟩ := hI3
              rw [hZc] at hR4
              exact ⟨hR4, k4.z (by decide) u2, ⟨u3, u4, (k4 69 4 (by omega)).trans u5⟩, fun q hq => by cases hq⟩
            exact body s4 (.inr (2, q.1)) (k3.tr k4.s.q) hI4 (fun a ha => by cases ha) (fun a ha => by cases ha) (fun Zn hZn => by rw [← hZn, hFe2]; rfl)
          · intro h3
            show ab_Z m_Re_parseLaw _ _ _ 29 [_, _, _] [] _
            have h3' : n ≠ 4 := fun z => h3 (by rw [z]; rfl)
            refine body s3 Z k3 hI3 (fun a ha => by have := hlen a ha; omega) (fun a ha => by rw [hZc] at ha; cases ha; exact h2') (fun Zn hZn => ?_)
            rw [← hZn, ← hFe, hZc, show 4 - n = (4 - (n + 1)) + 1 by omega]
            simp only [bnd_l]
            rw [lawL, if_pos h2']
            unfold acZ ptZ
            rw [bnd_l, show eatT K 265 q.1 = goT q.1 from by unfold eatT; rw [if_pos h2']]
            cases goT q.1 with
            | inr e => rfl
            | inl t1 =>
              simp only [bnd_l]
              cases smT K v 6 t1 with
              | inr e => rfl
              | inl q1 =>
                simp only [bnd_l]
                cases eatT K 60 q1.1 with
                | inr e => rfl
                | inl t2 =>
                  simp only [bnd_l]
                  cases smT K v 6 t2 with
                  | inr e => rfl
                  | inl q2 =>
                    simp only [bnd_l]
                    cases eatT K 266 q2.1 with
                    | inr e => rfl
                    | inl t3 =>
                      simp only [bnd_l]
                      cases smT K v 6 t3 with
                      | inr e => rfl
                      | inl q3 =>
                        simp only [bnd_l]
                        cases eatT K 267 q3.1 with
                        | inr e => rfl
                        | inl t4 =>
                          simp only [bnd_l]
                          rw [List.append_assoc, List.append_assoc]
                          rfl
        · intro h2
          show ab_Z m_Re_parseLaw _ _ _ 65 [_, _, _] [] _
          exact last (fun a ha => by rw [hZc] at ha; cases ha; exact fun z => h2 (by rw [z]; rfl))
theorem t_La_clear_73 : ab_T g_La_clear d (0, 0) [.ref 73] (HA fm X s t) (PV (HA fm X (ab_up (ab_up s 73 3 0) 73 4 0) t)) := by
  refine ab_T_of (M := m_La_clear) rfl rfl (Nat.le_of_ble_eq_true rfl) ?_
  show ab_Z m_La_clear _ _ _ 0 [_] [] _
  refine ab_go ok_La_clear 6 rfl ?_
  show ab_Z m_La_clear _ _ _ 6 [_] [] _
  exact ab_rV ok_La_clear rfl (⟨rfl, rfl⟩)
theorem t_La_endPart_73 {q : Nat} (hq : q ≤ 13) (h : s 73 4 = nI q) : ab_T g_La_endPart d (0, 0) [.ref 73] (HA fm X s t) (PV (HA fm X (enL s 73 q) t)) := by
  unfold enL
  refine ab_T_of (M := m_La_endPart) rfl rfl (Nat.le_of_ble_eq_true rfl) ?_
  show ab_Z m_La_endPart _ _ _ 0 [_] [] _
  refine ab_go ok_La_endPart 2 rfl ?_
  show ab_Z m_La_endPart _ _ _ 2 [_] [_] _
  rw [h]
  refine ab_br ok_La_endPart rfl rfl ?_ ?_
  · intro h0
    show ab_Z m_La_endPart _ _ _ 22 [_] [] _
    exact absurd h0 (nI_l0 (by omega))
  · intro h0
    show ab_Z m_La_endPart _ _ _ 3 [_] [] _
    refine ab_go ok_La_endPart 5 rfl ?_
    show ab_Z m_La_endPart _ _ _ 8 [_] [_, _] _
    rw [h]
    refine ab_br ok_La_endPart rfl rfl ?_ ?_
    · intro h1
      show ab_Z m_La_endPart _ _ _ 22 [_] [] _
      have h1' := (nI_leI (show 13 < 2 ^ 31 by decide) (show q < 2 ^ 31 by omega)).mp h1
      exact ab_rV ok_La_endPart rfl (⟨rfl, by rw [if_neg (by omega)]⟩)
    · intro h1
      show ab_Z m_La_endPart _ _ _ 9 [_] [] _
      have h1' : q < 13 := by
        rcases Nat.lt_or_ge q 13 with z | z
        · exact z
        · exact absurd ((nI_leI (show 13 < 2 ^ 31 by decide) (show q < 2 ^ 31 by omega)).mpr z) h1
      rw [if_pos h1']
      refine ab_go ok_La_endPart 6 rfl ?_
      show ab_Z m_La_endPart _ _ _ 15 [_] [_, _, _] _
      rw [h]
      refine ab_is ok_La_endPart rfl rfl (k := q) (by first | rfl | (simp only [LL1, LL2, LL3, LL4, LL5, LL6, LL7, LL8, LL10, LL15, LL18, LL20, LL21, LL22, LL23, LL24, LL32, LL39, LL40, LL130, LL420, pk_mul, nI_add]; done) | (simp only [LL1, LL2, LL3, LL4, LL5, LL6, LL7, LL8, LL10, LL15, LL18, LL20, LL21, LL22, LL23, LL24, LL32, LL39, LL40, LL130, LL420, pk_mul, nI_add]; congr 1; omega)) (by omega) (Nat.le_of_ble_eq_true rfl) ?_
      show ab_Z m_La_endPart _ _ _ 16 [_] [] _
      refine ab_go ok_La_endPart 6 rfl ?_
      show ab_Z m_La_endPart _ _ _ 22 [_] [] _
      rw [show ab_up s 75 q (s 73 3) 73 4 = nI q from by rw [ab_up_o (by decide)]; exact h, ← nI_succ]
      exact ab_rV ok_La_endPart rfl (⟨rfl, rfl⟩)
theorem t_La_setTo_73 (e : Ins) (x : Int32) (hx : x = encI e) (he : okQ [e] 0) : ab_T g_La_setTo (d + 1) (0, 0) [.ref 73, .int x] (HA fm X s t) (fun r h => r = none ∧ ∃ s', h = HA fm X s' t ∧ KQ 73 s s' ∧ CLaw s' 73 [[e]]) := by
  subst hx
  refine ab_T_of (M := m_La_setTo) rfl rfl (Nat.le_of_ble_eq_true rfl) ?_
  show ab_Z m_La_setTo _ _ _ 0 [_, _] [] _
  refine ab_go ok_La_setTo 1 rfl ?_
  show ab_Z m_La_setTo _ _ _ 1 [_, _] [_] _
  refine ab_cl ok_La_setTo rfl [_] [] rfl ⟨_, _, rfl, rfl, Or.inl ⟨_, _, rfl, rfl⟩⟩ (Nat.le_of_ble_eq_true rfl) (t_La_clear_73 d fm X s t) ?_
  rintro _ _ ⟨rfl, rfl⟩
  show ab_Z m_La_setTo _ _ _ 2 [_, _] [] _
  refine ab_go ok_La_setTo 2 rfl ?_
  show ab_Z m_La_setTo _ _ _ 4 [_, _] [_, _] _
  refine ab_cl ok_La_setTo rfl [_, _] [] rfl ⟨_, _, rfl, rfl, Or.inl ⟨_, _, rfl, rfl⟩⟩ (Nat.le_of_ble_eq_true rfl) (t_La_add_73 d fm X _ t (z := 0) (by decide) (by rw [ab_up_n (by decide), ab_up_s]; rfl) _) ?_
  rintro _ _ ⟨rfl, rfl⟩
  show ab_Z m_La_setTo _ _ _ 5 [_, _] [] _
  refine ab_go ok_La_setTo 1 rfl ?_
  show ab_Z m_La_setTo _ _ _ 6 [_, _] [_] _
  have h4 : adL (ab_up (ab_up s 73 3 0) 73 4 0) 73 0 (encI e) 73 4 = nI 0 := by
    unfold adL
    rw [if_pos (by decide), ab_up_n (by decide), ab_up_o (by decide), ab_up_s]
    rfl
  refine ab_cl ok_La_setTo rfl [_] [] rfl ⟨_, _, rfl, rfl, Or.inl ⟨_, _, rfl, rfl⟩⟩ (Nat.le_of_ble_eq_true rfl) (t_La_endPart_73 d fm X _ t (q := 0) (by decide) h4) ?_
  rintro _ _ ⟨rfl, rfl⟩
  show ab_Z m_La_setTo _ _ _ 7 [_, _] [] _
  have k0 : KQ 73 s (ab_up (ab_up s 73 3 0) 73 4 0) := fun c k _ _ _ h => by
    by_cases hc : c = 73
    · subst hc
      rw [ab_up_n (fun z => h ⟨rfl, Or.inr z⟩), ab_up_n (fun z => h ⟨rfl, Or.inl z⟩)]
    · rw [ab_up_o hc, ab_up_o hc]
  have hL : LwC (adL (ab_up (ab_up s 73 3 0) 73 4 0) 73 0 (encI e)) 73 [e] := adL_c (Q := []) (by decide) ⟨by rw [ab_up_n (by decide), ab_up_s]; rfl, fun j q h => by simp at h⟩
  have hC : CLaw (enL (adL (ab_up (ab_up s 73 3 0) 73 4 0) 73 0 (encI e)) 73 0) 73 [[e]] := by
    refine ⟨?_, show 1 ≤ 1 by decide, show 1 ≤ 13 by decide, show 1 ≤ 400 by decide, fun i hi => ?_, fun i Q hi j q hj => ?_, fun Q hQ => ?_⟩
    · unfold enL
      rw [if_pos (by decide), ab_up_s]
      rfl
    · have h0 : i = 0 := by simpa using hi
      subst h0
      unfold enL
      rw [if_pos (by decide), ab_up_o (by decide), ab_up_s]
      exact hL.1
    · have := fl_get hi hj
      have h5 := hL.2 (ofL [[e]] i + j) q this
      unfold enL
      rw [if_pos (by decide), ab_up_o (by decide), ab_up_o (by decide)]
      exact h5
    · rw [List.mem_singleton.mp hQ]; exact he
  exact ab_rV ok_La_setTo rfl (⟨rfl, _, rfl, (k0.tr (adL_k _ 73 0 (encI e)).q).tr (enL_k _ 73 0), hC⟩)
theorem t_Re_parseLaw_73 (hT : TC s t K P v nm) {n0 : Nat} (hR : Rd s K (.inl n0)) (hK0 : K n0 = 261) : ab_T g_Re_parseLaw (d + 23) (0, 0) [.ref 8, .ref 73] (HA fm X s t) (PLa fm X s t K 73 (lawT K v n0)) := by
  obtain ⟨F, hF⟩ : ∃ F, F = lawT K v n0 := ⟨_, rfl⟩
  rw [← hF]
  generalize hPo : PLa fm X s t K 73 F = Po
  have hFlen : ∀ q, F = .inl q → 1 ≤ q.2.length ∧ q.2.length ≤ 13 := fun q hq => by
    rw [hF] at hq
    obtain ⟨t1, b1, b2⟩ := bnd_in hq
    obtain ⟨t2, b3, b4⟩ := bnd_in b2
    have := lawL_len 4 t2 [] q b4
    simp only [List.length_nil] at this
    omega
  have sum1 : ∀ s1 Z, TC s1 t K P v nm → LwI s1 K 73 Z → ab_T g_Re_parseSum (d + 22) (0, 0) [.ref 8, .ref 73, .int 0] (HA fm X s1 t) (fun r h => r = none ∧ ∃ s2, h = HA fm X s2 t ∧ KS 73 s1 s2 ∧ Rd s2 K (mpT Prod.fst (bnd (mpT Prod.fst Z) (smT K v 6))) ∧ LwZ s2 73 ∧ ∀ a q, Z = .inl a → smT K v 6 a.1 = .inl q → LwC s2 73 (a.2.flatten ++ q.2)) := by
    intro s1 Z hT1 hI
    have hc := (t_exp_73 fm X t (K := K) (P := P) (v := v) (nm := nm) 6 (Nat.le_refl _) d).2 s1 (mpT Prod.fst Z) (flZ Z) hT1 hI.1 (fun n hn => by
      cases Z with
      | inr e => cases hn
      | inl q => cases hn; exact ⟨(hI.2.2.2 q rfl).1, (hI.2.2.2 q rfl).2.1⟩) hI.2.1
    refine ab_T_mono hc fun r h hp => ?_
    obtain ⟨rfl, s2, rfl, k2, hR2, hZ2, hq2⟩ := hp
    refine ⟨rfl, s2, rfl, k2, hR2, hZ2, fun a q ha hq => ?_⟩
    have := hq2 q (by rw [ha]; exact hq)
    rw [ha] at this
    exact this
  refine ab_T_of (M := m_Re_parseLaw) rfl rfl (Nat.le_of_ble_eq_true rfl) ?_
  show ab_Z m_Re_parseLaw _ _ _ 0 [_, _, _] [] _
  refine ab_go ok_Re_parseLaw 1 rfl ?_
  show ab_Z m_Re_parseLaw _ _ _ 1 [_, _, _] [_] _
  refine ab_cl ok_Re_parseLaw rfl [_] [] rfl ⟨_, _, rfl, rfl, Or.inl ⟨_, _, rfl, rfl⟩⟩ (Nat.le_of_ble_eq_true rfl) (t_La_clear_73 (d + 22) fm X s t) ?_
  rintro _ _ ⟨rfl, rfl⟩
  show ab_Z m_Re_parseLaw _ _ _ 2 [_, _, _] [] _
  have kc : KQ 73 s (ab_up (ab_up s 73 3 0) 73 4 0) := fun c k _ _ _ h => by
    by_cases hc : c = 73
    · subst hc
      rw [ab_up_n (fun z => h ⟨rfl, Or.inr z⟩), ab_up_n (fun z => h ⟨rfl, Or.inl z⟩)]
    · rw [ab_up_o hc, ab_up_o hc]
  have hTc := hT.k (kc.r (by decide)) (KRt.rf t)
  have c8 : ∀ j, ab_up (ab_up s 73 3 0) 73 4 0 8 j = s 8 j := fun j => by rw [ab_up_o (by decide), ab_up_o (by decide)]
  have hRc : Rd (ab_up (ab_up s 73 3 0) 73 4 0) K (.inl n0) := hR.of (c8 1) (c8 2) (c8 3)
  have hIc : LwI (ab_up (ab_up s 73 3 0) 73 4 0) K 73 (.inl (n0, [])) := by
    have h3 : ab_up (ab_up s 73 3 0) 73 4 0 73 3 = nI 0 := by rw [ab_up_n (by decide), ab_up_s]; rfl
    refine ⟨hRc, ⟨0, by decide, h3⟩, ⟨0, by decide, ab_up_s ..⟩, fun q hq => ?_⟩
    cases hq
    exact ⟨⟨h3, fun j q h => by simp at h⟩, Nat.zero_le _, ab_up_s .., fun i hi => absurd hi (by simp), fun Q hQ => by simp at hQ⟩
  generalize ab_up (ab_up s 73 3 0) 73 4 0 = s0 at kc hTc hRc hIc
  refine ab_go ok_Re_parseLaw 3 rfl ?_
  show ab_Z m_Re_parseLaw _ _ _ 5 [_, _, _] [_, _] _
  rw [hRc.2.1, hK0]
  refine ab_cl ok_Re_parseLaw rfl [_, _] [] rfl ⟨_, _, rfl, rfl, Or.inl ⟨_, _, rfl, rfl⟩⟩ (Nat.le_of_ble_eq_true rfl) (t_Re_accept (d + 22) fm X s0 t hTc hIc.1 (w := 261) (by decide) (by decide) _ rfl) ?_
  rintro _ _ ⟨rfl, s1, rfl, k1, hR1⟩
  show ab_Z m_Re_parseLaw _ _ _ 6 [_, _, _] [_] _
  have hI1 := hIc.acc (by decide) k1 hR1
  have hT1 := hTc.k k1.l.r (KRt.rf t)
  refine ab_go ok_Re_parseLaw 3 rfl ?_
  show ab_Z m_Re_parseLaw _ _ _ 9 [_, _, _] [_, _] _
  refine ab_cl ok_Re_parseLaw rfl [_, _] [] rfl ⟨_, _, rfl, rfl, Or.inl ⟨_, _, rfl, rfl⟩⟩ (Nat.le_of_ble_eq_true rfl) (t_Re_accept (d + 22) fm X s1 t hT1 hI1.1 (w := 61) (by decide) (by decide) _ rfl) ?_
  rintro _ _ ⟨rfl, s2, rfl, k2, hR2⟩
  show ab_Z m_Re_parseLaw _ _ _ 10 [_, _, _] [_] _
  have hI2 := hI1.acc (by decide) k2 hR2
  have hT2 := hT1.k k2.l.r (KRt.rf t)
  refine ab_go ok_Re_parseLaw 3 rfl ?_
  show ab_Z m_Re_parseLaw _ _ _ 13 [_, _, _] [] _
  have main := lp_dn 5 (fun n => ∀ s3 Z, KQ 73 s s3 → LwI s3 K 73 Z → (∀ q, Z = .inl q → q.2.length = 3 * n ∧ n ≤ 4) → (bnd Z fun q => lawL K v (4 - n) q.1 q.2) = F → ab_Z m_Re_parseLaw (d + 23) (0, 0) Po 13 [some (.ref 8), some (.ref 73), some (.int (nI n))] [] (HA fm X s3 t)) ?_ ?_
  · refine main s2 _ ((kc.tr k1.s.q).tr k2.s.q) hI2 (fun q hq => ?_) ?_
    · obtain ⟨a, b1, b2⟩ := bnd_in hq
      obtain ⟨a2, b3, b4⟩ := bnd_in b2
      cases b4
      obtain ⟨a3, b5, b6⟩ := bnd_in b1
      cases b5
      obtain ⟨a4, b7, b8⟩ := bnd_in b6
      cases b8
      exact ⟨rfl, by decide⟩
    · rw [hF]
      unfold acZ lawT
      rw [bnd_l, show eatT K 261 (n0, ([] : List (List Ins))).1 = goT n0 from by unfold eatT; rw [if_pos hK0]]
      cases goT n0 with
      | inr e => rfl
      | inl t1 =>
        simp only [bnd_l]
        cases eatT K 61 t1 <;> rfl
  · intro s3 Z k3 hI3 hlen hFe
    cases hZc : Z with
    | inl q => have := (hlen q hZc).2; omega
    | inr e =>
      rw [hZc] at hI3 hFe
      have hT3 := hT.k (k3.r (by decide)) (KRt.rf t)
      obtain ⟨q0, hq1, hq2⟩ := hI3.2.2.1
      refine ab_go ok_Re_parseLaw 2 rfl ?_
      show ab_Z m_Re_parseLaw _ _ _ 15 [_, _, _] [_, _] _
      refine ab_go ok_Re_parseLaw 1 rfl ?_
      show ab_Z m_Re_parseLaw _ _ _ 65 [_, _, _] [] _
      refine ab_go ok_Re_parseLaw 3 rfl ?_
      show ab_Z m_Re_parseLaw _ _ _ 68 [_, _, _] [_, _, _] _
      refine ab_cl ok_Re_parseLaw rfl [_, _, _] [] rfl ⟨_, _, rfl, rfl, Or.inl ⟨_, _, rfl, rfl⟩⟩ (Nat.le_of_ble_eq_true rfl) (sum1 s3 (.inr e) hT3 hI3) ?_
      rintro _ _ ⟨rfl, s4, rfl, k4, hR4, hZ4, -⟩
      show ab_Z m_Re_parseLaw _ _ _ 69 [_, _, _] [] _
      refine ab_go ok_Re_parseLaw 1 rfl ?_
      show ab_Z m_Re_parseLaw _ _ _ 70 [_, _, _] [_] _
      refine ab_cl ok_Re_parseLaw rfl [_] [] rfl ⟨_, _, rfl, rfl, Or.inl ⟨_, _, rfl, rfl⟩⟩ (Nat.le_of_ble_eq_true rfl) (t_La_endPart_73 (d + 22) fm X s4 t hq1 ((k4 73 4 (by omega) (by omega) (by omega)).trans hq2)) ?_
      rintro _ _ ⟨rfl, rfl⟩
      show ab_Z m_Re_parseLaw _ _ _ 71 [_, _, _] [] _
      have fin : Po none (HA fm X (enL s4 73 q0) t) := by
        rw [← hPo, ← hFe]
        refine ⟨rfl, _, rfl, (k3.tr k4.q).tr (enL_k s4 73 q0), ?_, fun q hq => by cases hq⟩
        have e8 : ∀ j, enL s4 73 q0 8 j = s4 8 j := fun j => by
          unfold enL
          split
          · rw [ab_up_o (by decide), ab_up_o (by decide)]
          · rfl
        exact hR4.of (e8 1) (e8 2) (e8 3)
      exact ab_rV ok_Re_parseLaw rfl (fin)
  · intro n hn ih s3 Z k3 hI3 hlen hFe
    have hT3 := hT.k (k3.r (by decide)) (KRt.rf t)
    have last : (∀ q, Z = .inl q → K q.1 ≠ 265) → ab_Z m_Re_parseLaw (d + 23) (0, 0) Po 65 [some (.ref 8), some (.ref 73), some (.int (nI n))] [] (HA fm X s3 t) := by
      intro hk
      obtain ⟨q0, hq1, hq2⟩ := hI3.2.2.1
      have hFZ : F = ptZ K v Z := by
        rw [← hFe]
        unfold ptZ
        refine bnd_cg (fun q hq => ?_)
        have h0 := hk q hq
        cases hn4 : 4 - n with
        | zero => rw [lawL, if_neg h0]
        | succ m => rw [lawL, if_neg h0]
      refine ab_go ok_Re_parseLaw 3 rfl ?_
      show ab_Z m_Re_parseLaw _ _ _ 68 [_, _, _] [_, _, _] _
      refine ab_cl ok_Re_parseLaw rfl [_, _, _] [] rfl ⟨_, _, rfl, rfl, Or.inl ⟨_, _, rfl, rfl⟩⟩ (Nat.le_of_ble_eq_true rfl) (sum1 s3 Z hT3 hI3) ?_
      rintro _ _ ⟨rfl, s4, rfl, k4, hR4, hZ4, hq4⟩
      show ab_Z m_Re_parseLaw _ _ _ 69 [_, _, _] [] _
      refine ab_go ok_Re_parseLaw 1 rfl ?_
      show ab_Z m_Re_parseLaw _ _ _ 70 [_, _, _] [_] _
      refine ab_cl ok_Re_parseLaw rfl [_] [] rfl ⟨_, _, rfl, rfl, Or.inl ⟨_, _, rfl, rfl⟩⟩ (Nat.le_of_ble_eq_true rfl) (t_La_endPart_73 (d + 22) fm X s4 t hq1 ((k4 73 4 (by omega) (by omega) (by omega)).trans hq2)) ?_
      rintro _ _ ⟨rfl, rfl⟩
      show ab_Z m_Re_parseLaw _ _ _ 71 [_, _, _] [] _
      have hI5 := hI3.part (by decide) hT.2.2.1 hT.2.1 (fun q hq => by have := hlen q hq; omega) k4 hR4 hZ4 hq4 hq1 hq2
      have fin : Po none (HA fm X (enL s4 73 q0) t) := by
        rw [← hPo]
        refine ⟨rfl, _, rfl, (k3.tr k4.q).tr (enL_k s4 73 q0), by rw [hFZ]; exact hI5.1, fun q hq => ?_⟩
        have hl := hFlen q hq
        rw [hFZ] at hq
        exact hI5.law hq hl.1 hl.2
      exact ab_rV ok_Re_parseLaw rfl (fin)
    refine ab_go ok_Re_parseLaw 2 rfl ?_
    show ab_Z m_Re_parseLaw _ _ _ 15 [_, _, _] [_, _] _
    refine ab_br ok_Re_parseLaw rfl rfl ?_ ?_
    · intro h1
      show ab_Z m_Re_parseLaw _ _ _ 65 [_, _, _] [] _
      have := i_ltK (z := 4) rfl h1
      rw [nI_t (by omega)] at this
      omega
    · intro h1
      show ab_Z m_Re_parseLaw _ _ _ 16 [_, _, _] [] _
      refine ab_go ok_Re_parseLaw 2 rfl ?_
      show ab_Z m_Re_parseLaw _ _ _ 18 [_, _, _] [_] _
      cases hZc : Z with
      | inr e =>
        have hI3' := hI3
        rw [hZc] at hI3'
        obtain ⟨⟨a1, a2, a3, a4⟩, -⟩ := hI3'
        rw [a2]
        refine ab_br ok_Re_parseLaw rfl rfl ?_ ?_
        · intro h2
          show ab_Z m_Re_parseLaw _ _ _ 19 [_, _, _] [] _
          exact absurd h2 (nI_ne0 (by omega) (by omega))
        · intro h2
          show ab_Z m_Re_parseLaw _ _ _ 65 [_, _, _] [] _
          exact last (fun q hq => by rw [hZc] at hq; cases hq)
      | inl q =>
        have hI3' := hI3
        rw [hZc] at hI3'
        obtain ⟨⟨a1, a2, a3, a4⟩, -⟩ := hI3'
        have hKq := hT.2.1 q.1
        have hlq := hlen q hZc
        rw [a3]
        refine ab_go ok_Re_parseLaw 1 rfl ?_
        show ab_Z m_Re_parseLaw _ _ _ 19 [_, _, _] [] _
        refine ab_go ok_Re_parseLaw 3 rfl ?_
        show ab_Z m_Re_parseLaw _ _ _ 22 [_, _, _] [_, _] _
        rw [show s3 8 2 = nI (K q.1) from a2]
        refine ab_br ok_Re_parseLaw rfl rfl ?_ ?_
        · intro h2
          show ab_Z m_Re_parseLaw _ _ _ 23 [_, _, _] [] _
          have h2' : K q.1 = 265 := (nI_eq (b := 265) (by omega) (by decide)).mp h2
          -- Z1: behind the word
          have body : ∀ s4 Z0, KQ 73 s s4 → LwI s4 K 73 Z0 → (∀ a, Z0 = .inl a → a.2.length = 3 * n ∧ n ≤ 3) → (∀ a, Z0 = .inl a → K a.1 = 265) → (∀ Zn, (bnd (acZ K 267 (ptZ K v (acZ K 266 (ptZ K v (acZ K 60 (ptZ K v (acZ K 265 Z0))))))) fun q => lawL K v (4 - (n + 1)) q.1 q.2) = Zn → Zn = F) → ab_Z m_Re_parseLaw (d + 23) (0, 0) Po 29 [some (.ref 8), some (.ref 73), some (.int (nI n))] [] (HA fm X s4 t) := by
            intro s4 Z0 k4 hI4 hl0 hk0 hFin
            have hT4 := hT.k (k4.r (by decide)) (KRt.rf t)
            have hl1 : ∀ a, acZ K 265 Z0 = .inl a → a.2.length = 3 * n ∧ n ≤ 3 := fun a ha => by
              obtain ⟨b, b1, b2⟩ := bnd_in ha
              obtain ⟨c, b3, b4⟩ := bnd_in b2
              cases b4
              exact hl0 b b1
            have hl2 : ∀ a, acZ K 60 (ptZ K v (acZ K 265 Z0)) = .inl a → a.2.length = 3 * n + 1 ∧ n ≤ 3 := fun a ha => by
              obtain ⟨b, b1, b2⟩ := bnd_in ha
              obtain ⟨c, b3, b4⟩ := bnd_in b2
              cases b4
              obtain ⟨b', b5, b6⟩ := bnd_in b1
              obtain ⟨c', b7, b8⟩ := bnd_in b6
              cases b8
              have := hl1 b' b5
              simp only [List.length_append, List.length_singleton]
              omega
            have hl3 : ∀ a, acZ K 266 (ptZ K v (acZ K 60 (ptZ K v (acZ K 265 Z0)))) = .inl a → a.2.length = 3 * n + 2 ∧ n ≤ 3 := fun a ha => by
              obtain ⟨b, b1, b2⟩ := bnd_in ha
              obtain ⟨c, b3, b4⟩ := bnd_in b2
              cases b4
              obtain ⟨b', b5, b6⟩ := bnd_in b1
              obtain ⟨c', b7, b8⟩ := bnd_in b6
              cases b8
              have := hl2 b' b5
              simp only [List.length_append, List.length_singleton]
              omega
            refine ab_go ok_Re_parseLaw 2 rfl ?_
            show ab_Z m_Re_parseLaw _ _ _ 31 [_, _, _] [_, _] _
            refine ab_cl ok_Re_parseLaw rfl [_, _] [] rfl ⟨_, _, rfl, rfl, Or.inl ⟨_, _, rfl, rfl⟩⟩ (Nat.le_of_ble_eq_true rfl) (t_Re_accept (d + 22) fm X s4 t hT4 hI4.1 (w := 265) (by decide) (by decide) _ rfl) ?_
            rintro _ _ ⟨rfl, s5, rfl, k5, hR5⟩
            show ab_Z m_Re_parseLaw _ _ _ 32 [_, _, _] [_] _
            have hI5 := hI4.acc (by decide) k5 hR5
            have hT5 := hT4.k k5.l.r (KRt.rf t)
            refine ab_go ok_Re_parseLaw 4 rfl ?_
            show ab_Z m_Re_parseLaw _ _ _ 36 [_, _, _] [_, _, _] _
            refine ab_cl ok_Re_parseLaw rfl [_, _, _] [] rfl ⟨_, _, rfl, rfl, Or.inl ⟨_, _, rfl, rfl⟩⟩ (Nat.le_of_ble_eq_true rfl) (sum1 s5 _ hT5 hI5) ?_
            rintro _ _ ⟨rfl, s6, rfl, k6, hR6, hZ6, hq6⟩
            show ab_Z m_Re_parseLaw _ _ _ 37 [_, _, _] [] _
            obtain ⟨p6, hp61, hp62⟩ := hI5.2.2.1
            refine ab_go ok_Re_parseLaw 1 rfl ?_
            show ab_Z m_Re_parseLaw _ _ _ 38 [_, _, _] [_] _
            refine ab_cl ok_Re_parseLaw rfl [_] [] rfl ⟨_, _, rfl, rfl, Or.inl ⟨_, _, rfl, rfl⟩⟩ (Nat.le_of_ble_eq_true rfl) (t_La_endPart_73 (d + 22) fm X s6 t hp61 ((k6 73 4 (by omega) (by omega) (by omega)).trans hp62)) ?_
            rintro _ _ ⟨rfl, rfl⟩
            show ab_Z m_Re_parseLaw _ _ _ 39 [_, _, _] [] _
            have hI7 := hI5.part (by decide) hT.2.2.1 hT.2.1 (fun q hq => by have := hl1 q hq; omega) k6 hR6 hZ6 hq6 hp61 hp62
            have k47 : KQ 73 s (enL s6 73 p6) := ((k4.tr k5.s.q).tr k6.q).tr (enL_k s6 73 p6)
            generalize enL s6 73 p6 = s7 at hI7 k47 ⊢
            have hT7 := hT.k (k47.r (by decide)) (KRt.rf t)
            refine ab_go ok_Re_parseLaw 2 rfl ?_
            show ab_Z m_Re_parseLaw _ _ _ 41 [_, _, _] [_, _] _
            refine ab_cl ok_Re_parseLaw rfl [_, _] [] rfl ⟨_, _, rfl, rfl, Or.inl ⟨_, _, rfl, rfl⟩⟩ (Nat.le_of_ble_eq_true rfl) (t_Re_accept (d + 22) fm X s7 t hT7 hI7.1 (w := 60) (by decide) (by decide) _ rfl) ?_
            rintro _ _ ⟨rfl, s8, rfl, k8, hR8⟩
            show ab_Z m_Re_parseLaw _ _ _ 42 [_, _, _] [_] _
            have hI8 := hI7.acc (by decide) k8 hR8
            have hT8 := hT7.k k8.l.r (KRt.rf t)
            refine ab_go ok_Re_parseLaw 4 rfl ?_
            show ab_Z m_Re_parseLaw _ _ _ 46 [_, _, _] [_, _, _] _
            refine ab_cl ok_Re_parseLaw rfl [_, _, _] [] rfl ⟨_, _, rfl, rfl, Or.inl ⟨_, _, rfl, rfl⟩⟩ (Nat.le_of_ble_eq_true rfl) (sum1 s8 _ hT8 hI8) ?_
            rintro _ _ ⟨rfl, s9, rfl, k9, hR9, hZ9, hq9⟩
            show ab_Z m_Re_parseLaw _ _ _ 47 [_, _, _] [] _
            obtain ⟨p9, hp91, hp92⟩ := hI8.2.2.1
            refine ab_go ok_Re_parseLaw 1 rfl ?_
            show ab_Z m_Re_parseLaw _ _ _ 48 [_, _, _] [_] _
            refine ab_cl ok_Re_parseLaw rfl [_] [] rfl ⟨_, _, rfl, rfl, Or.inl ⟨_, _, rfl, rfl⟩⟩ (Nat.le_of_ble_eq_true rfl) (t_La_endPart_73 (d + 22) fm X s9 t hp91 ((k9 73 4 (by omega) (by omega) (by omega)).trans hp92)) ?_
            rintro _ _ ⟨rfl, rfl⟩
            show ab_Z m_Re_parseLaw _ _ _ 49 [_, _, _] [] _
            have hI10 := hI8.part (by decide) hT.2.2.1 hT.2.1 (fun q hq => by have := hl2 q hq; omega) k9 hR9 hZ9 hq9 hp91 hp92
            have k410 : KQ 73 s (enL s9 73 p9) := ((k47.tr k8.s.q).tr k9.q).tr (enL_k s9 73 p9)
            generalize enL s9 73 p9 = s10 at hI10 k410 ⊢
            have hT10 := hT.k (k410.r (by decide)) (KRt.rf t)
            refine ab_go ok_Re_parseLaw 2 rfl ?_
            show ab_Z m_Re_parseLaw _ _ _ 51 [_, _, _] [_, _] _
            refine ab_cl ok_Re_parseLaw rfl [_, _] [] rfl ⟨_, _, rfl, rfl, Or.inl ⟨_, _, rfl, rfl⟩⟩ (Nat.le_of_ble_eq_true rfl) (t_Re_accept (d + 22) fm X s10 t hT10 hI10.1 (w := 266) (by decide) (by decide) _ rfl) ?_
            rintro _ _ ⟨rfl, s11, rfl, k11, hR11⟩
            show ab_Z m_Re_parseLaw _ _ _ 52 [_, _, _] [_] _
            have hI11 := hI10.acc (by decide) k11 hR11
            have hT11 := hT10.k k11.l.r (KRt.rf t)
            refine ab_go ok_Re_parseLaw 4 rfl ?_
            show ab_Z m_Re_parseLaw _ _ _ 56 [_, _, _] [_, _, _] _
            refine ab_cl ok_Re_parseLaw rfl [_, _, _] [] rfl ⟨_, _, rfl, rfl, Or.inl ⟨_, _, rfl, rfl⟩⟩ (Nat.le_of_ble_eq_true rfl) (sum1 s11 _ hT11 hI11) ?_
            rintro _ _ ⟨rfl, s12, rfl, k12, hR12, hZ12, hq12⟩
            show ab_Z m_Re_parseLaw _ _ _ 57 [_, _, _] [] _
            obtain ⟨p12, hp121, hp122⟩ := hI11.2.2.1
            refine ab_go ok_Re_parseLaw 1 rfl ?_
            show ab_Z m_Re_parseLaw _ _ _ 58 [_, _, _] [_] _
            refine ab_cl ok_Re_parseLaw rfl [_] [] rfl ⟨_, _, rfl, rfl, Or.inl ⟨_, _, rfl, rfl⟩⟩ (Nat.le_of_ble_eq_true rfl) (t_La_endPart_73 (d + 22) fm X s12 t hp121 ((k12 73 4 (by omega) (by omega) (by omega)).trans hp122)) ?_
            rintro _ _ ⟨rfl, rfl⟩
            show ab_Z m_Re_parseLaw _ _ _ 59 [_, _, _] [] _
            have hI13 := hI11.part (by decide) hT.2.2.1 hT.2.1 (fun q hq => by have := hl3 q hq; omega) k12 hR12 hZ12 hq12 hp121 hp122
            have k413 : KQ 73 s (enL s12 73 p12) := ((k410.tr k11.s.q).tr k12.q).tr (enL_k s12 73 p12)
            generalize enL s12 73 p12 = s13 at hI13 k413 ⊢
            have hT13 := hT.k (k413.r (by decide)) (KRt.rf t)
            refine ab_go ok_Re_parseLaw 2 rfl ?_
            show ab_Z m_Re_parseLaw _ _ _ 61 [_, _, _] [_, _] _
            refine ab_cl ok_Re_parseLaw rfl [_, _] [] rfl ⟨_, _, rfl, rfl, Or.inl ⟨_, _, rfl, rfl⟩⟩ (Nat.le_of_ble_eq_true rfl) (t_Re_accept (d + 22) fm X s13 t hT13 hI13.1 (w := 267) (by decide) (by decide) _ rfl) ?_
            rintro _ _ ⟨rfl, s14, rfl, k14, hR14⟩
            show ab_Z m_Re_parseLaw _ _ _ 62 [_, _, _] [_] _
            have hI14 := hI13.acc (by decide) k14 hR14
            refine ab_go ok_Re_parseLaw 3 rfl ?_
            show ab_Z m_Re_parseLaw _ _ _ 13 [_, _, _] [] _
            rw [← nI_succ]
            refine ih s14 _ (k413.tr k14.s.q) hI14 (fun a ha => ?_) (hFin _ rfl)
            obtain ⟨b, b1, b2⟩ := bnd_in ha
            obtain ⟨c, b3, b4⟩ := bnd_in b2
            cases b4
            obtain ⟨b', b5, b6⟩ := bnd_in b1
            obtain ⟨c', b7, b8⟩ := bnd_in b6
            cases b8
            have := hl3 b' b5
            simp only [List.length_append, List.length_singleton]
            omega
          refine ab_go ok_Re_parseLaw 2 rfl ?_
          show ab_Z m_Re_parseLaw _ _ _ 25 [_, _, _] [_, _] _
          refine ab_br ok_Re_parseLaw rfl rfl ?_ ?_
          · intro h3
            show ab_Z m_Re_parseLaw _ _ _ 26 [_, _, _] [] _
            have h3' : n = 4 := (nI_eq (b := 4) (by omega) (by decide)).mp h3
            have hFe2 : F = .inr (2, q.1) := by
              rw [← hFe, hZc, bnd_l, h3', Nat.sub_self, lawL, if_pos h2']
            refine ab_go ok_Re_parseLaw 2 rfl ?_
            show ab_Z m_Re_parseLaw _ _ _ 28 [_, _, _] [_, _] _
            refine ab_cl ok_Re_parseLaw rfl [_, _] [] rfl ⟨_, _, rfl, rfl, Or.inl ⟨_, _, rfl, rfl⟩⟩ (Nat.le_of_ble_eq_true rfl) (t_Re_fail (d + 22) fm X s3 t hI3.1 (c := 2) (by omega) _ rfl) ?_
            rintro _ _ ⟨rfl, s4, rfl, k4, hR4⟩
            show ab_Z m_Re_parseLaw _ _ _ 29 [_, _, _] [] _
            have hI4 : LwI s4 K 73 (.inr (2, q.1)) := by
              obtain ⟨-, u2, ⟨u3, u4, u5⟩, -⟩ := hI3
              rw [hZc] at hR4
              exact ⟨hR4, k4.z (by decide) u2, ⟨u3, u4, (k4 73 4 (by omega)).trans u5⟩, fun q hq => by cases hq⟩
            exact body s4 (.inr (2, q.1)) (k3.tr k4.s.q) hI4 (fun a ha => by cases ha) (fun a ha => by cases ha) (fun Zn hZn => by rw [← hZn, hFe2]; rfl)
          · intro h3
            show ab_Z m_Re_parseLaw _ _ _ 29 [_, _, _] [] _
            have h3' : n ≠ 4 := fun z => h3 (by rw [z]; rfl)
            refine body s3 Z k3 hI3 (fun a ha => by have := hlen a ha; omega) (fun a ha => by rw [hZc] at ha; cases ha; exact h2') (fun Zn hZn => ?_)
            rw [← hZn, ← hFe, hZc, show 4 - n = (4 - (n + 1)) + 1 by omega]
            simp only [bnd_l]
            rw [lawL, if_pos h2']
            unfold acZ ptZ
            rw [bnd_l, show eatT K 265 q.1 = goT q.1 from by unfold eatT; rw [if_pos h2']]
            cases goT q.1 with
            | inr e => rfl
            | inl t1 =>
              simp only [bnd_l]
              cases smT K v 6 t1 with
              | inr e => rfl
              | inl q1 =>
                simp only [bnd_l]
                cases eatT K 60 q1.1 with
                | inr e => rfl
                | inl t2 =>
                  simp only [bnd_l]
                  cases smT K v 6 t2 with
                  | inr e => rfl
                  | inl q2 =>
                    simp only [bnd_l]
                    cases eatT K 266 q2.1 with
                    | inr e => rfl
                    | inl t3 =>
                      simp only [bnd_l]
                      cases smT K v 6 t3 with
                      | inr e => rfl
                      | inl q3 =>
                        simp only [bnd_l]
                        cases eatT K 267 q3.1 with
                        | inr e => rfl
                        | inl t4 =>
                          simp only [bnd_l]
                          rw [List.append_assoc, List.append_assoc]
                          rfl
        · intro h2
          show ab_Z m_Re_parseLaw _ _ _ 65 [_, _, _] [] _
          exact last (fun a ha => by rw [hZc] at ha; cases ha; exact fun z => h2 (by rw [z]; rfl))
theorem t_La_clear_77 : ab_T g_La_clear d (0, 0) [.ref 77] (HA fm X s t) (PV (HA fm X (ab_up (ab_up s 77 3 0) 77 4 0) t)) := by
  refine ab_T_of (M := m_La_clear) rfl rfl (Nat.le_of_ble_eq_true rfl) ?_
  show ab_Z m_La_clear _ _ _ 0 [_] [] _
  refine ab_go ok_La_clear 6 rfl ?_
  show ab_Z m_La_clear _ _ _ 6 [_] [] _
  exact ab_rV ok_La_clear rfl (⟨rfl, rfl⟩)
theorem t_La_endPart_77 {q : Nat} (hq : q ≤ 13) (h : s 77 4 = nI q) : ab_T g_La_endPart d (0, 0) [.ref 77] (HA fm X s t) (PV (HA fm X (enL s 77 q) t)) := by
  unfold enL
  refine ab_T_of (M := m_La_endPart) rfl rfl (Nat.le_of_ble_eq_true rfl) ?_
  show ab_Z m_La_endPart _ _ _ 0 [_] [] _
  refine ab_go ok_La_endPart 2 rfl ?_
  show ab_Z m_La_endPart _ _ _ 2 [_] [_] _
  rw [h]
  refine ab_br ok_La_endPart rfl rfl ?_ ?_
  · intro h0
    show ab_Z m_La_endPart _ _ _ 22 [_] [] _
    exact absurd h0 (nI_l0 (by omega))
  · intro h0
    show ab_Z m_La_endPart _ _ _ 3 [_] [] _
    refine ab_go ok_La_endPart 5 rfl ?_
    show ab_Z m_La_endPart _ _ _ 8 [_] [_, _] _
    rw [h]
    refine ab_br ok_La_endPart rfl rfl ?_ ?_
    · intro h1
      show ab_Z m_La_endPart _ _ _ 22 [_] [] _
      have h1' := (nI_leI (show 13 < 2 ^ 31 by decide) (show q < 2 ^ 31 by omega)).mp h1
      exact ab_rV ok_La_endPart rfl (⟨rfl, by rw [if_neg (by omega)]⟩)
    · intro h1
      show ab_Z m_La_endPart _ _ _ 9 [_] [] _
      have h1' : q < 13 := by
        rcases Nat.lt_or_ge q 13 with z | z
        · exact z
        · exact absurd ((nI_leI (show 13 < 2 ^ 31 by decide) (show q < 2 ^ 31 by omega)).mpr z) h1
      rw [if_pos h1']
      refine ab_go ok_La_endPart 6 rfl ?_
      show ab_Z m_La_endPart _ _ _ 15 [_] [_, _, _] _
      rw [h]
      refine ab_is ok_La_endPart rfl rfl (k := q) (by first | rfl | (simp only [LL1, LL2, LL3, LL4, LL5, LL6, LL7, LL8, LL10, LL15, LL18, LL20, LL21, LL22, LL23, LL24, LL32, LL39, LL40, LL130, LL420, pk_mul, nI_add]; done) | (simp only [LL1, LL2, LL3, LL4, LL5, LL6, LL7, LL8, LL10, LL15, LL18, LL20, LL21, LL22, LL23, LL24, LL32, LL39, LL40, LL130, LL420, pk_mul, nI_add]; congr 1; omega)) (by omega) (Nat.le_of_ble_eq_true rfl) ?_
      show ab_Z m_La_endPart _ _ _ 16 [_] [] _
      refine ab_go ok_La_endPart 6 rfl ?_
      show ab_Z m_La_endPart _ _ _ 22 [_] [] _
      rw [show ab_up s 79 q (s 77 3) 77 4 = nI q from by rw [ab_up_o (by decide)]; exact h, ← nI_succ]
      exact ab_rV ok_La_endPart rfl (⟨rfl, rfl⟩)
theorem t_La_setTo_77 (e : Ins) (x : Int32) (hx : x = encI e) (he : okQ [e] 0) : ab_T g_La_setTo (d + 1) (0, 0) [.ref 77, .int x] (HA fm X s t) (fun r h => r = none ∧ ∃ s', h = HA fm X s' t ∧ KQ 77 s s' ∧ CLaw s' 77 [[e]]) := by
  subst hx
  refine ab_T_of (M := m_La_setTo) rfl rfl (Nat.le_of_ble_eq_true rfl) ?_
  show ab_Z m_La_setTo _ _ _ 0 [_, _] [] _
  refine ab_go ok_La_setTo 1 rfl ?_
  show ab_Z m_La_setTo _ _ _ 1 [_, _] [_] _
  refine ab_cl ok_La_setTo rfl [_] [] rfl ⟨_, _, rfl, rfl, Or.inl ⟨_, _, rfl, rfl⟩⟩ (Nat.le_of_ble_eq_true rfl) (t_La_clear_77 d fm X s t) ?_
  rintro _ _ ⟨rfl, rfl⟩
  show ab_Z m_La_setTo _ _ _ 2 [_, _] [] _
  refine ab_go ok_La_setTo 2 rfl ?_
  show ab_Z m_La_setTo _ _ _ 4 [_, _] [_, _] _
  refine ab_cl ok_La_setTo rfl [_, _] [] rfl ⟨_, _, rfl, rfl, Or.inl ⟨_, _, rfl, rfl⟩⟩ (Nat.le_of_ble_eq_true rfl) (t_La_add_77 d fm X _ t (z := 0) (by decide) (by rw [ab_up_n (by decide), ab_up_s]; rfl) _) ?_
  rintro _ _ ⟨rfl, rfl⟩
  show ab_Z m_La_setTo _ _ _ 5 [_, _] [] _
  refine ab_go ok_La_setTo 1 rfl ?_
  show ab_Z m_La_setTo _ _ _ 6 [_, _] [_] _
  have h4 : adL (ab_up (ab_up s 77 3 0) 77 4 0) 77 0 (encI e) 77 4 = nI 0 := by
    unfold adL
    rw [if_pos (by decide), ab_up_n (by decide), ab_up_o (by decide), ab_up_s]
    rfl
  refine ab_cl ok_La_setTo rfl [_] [] rfl ⟨_, _, rfl, rfl, Or.inl ⟨_, _, rfl, rfl⟩⟩ (Nat.le_of_ble_eq_true rfl) (t_La_endPart_77 d fm X _ t (q := 0) (by decide) h4) ?_
  rintro _ _ ⟨rfl, rfl⟩
  show ab_Z m_La_setTo _ _ _ 7 [_, _] [] _
  have k0 : KQ 77 s (ab_up (ab_up s 77 3 0) 77 4 0) := fun c k _ _ _ h => by
    by_cases hc : c = 77
    · subst hc
      rw [ab_up_n (fun z => h ⟨rfl, Or.inr z⟩), ab_up_n (fun z => h ⟨rfl, Or.inl z⟩)]
    · rw [ab_up_o hc, ab_up_o hc]
  have hL : LwC (adL (ab_up (ab_up s 77 3 0) 77 4 0) 77 0 (encI e)) 77 [e] := adL_c (Q := []) (by decide) ⟨by rw [ab_up_n (by decide), ab_up_s]; rfl, fun j q h => by simp at h⟩
  have hC : CLaw (enL (adL (ab_up (ab_up s 77 3 0) 77 4 0) 77 0 (encI e)) 77 0) 77 [[e]] := by
    refine ⟨?_, show 1 ≤ 1 by decide, show 1 ≤ 13 by decide, show 1 ≤ 400 by decide, fun i hi => ?_, fun i Q hi j q hj => ?_, fun Q hQ => ?_⟩
    · unfold enL
      rw [if_pos (by decide), ab_up_s]
      rfl
    · have h0 : i = 0 := by simpa using hi
      subst h0
      unfold enL
      rw [if_pos (by decide), ab_up_o (by decide), ab_up_s]
      exact hL.1
    · have := fl_get hi hj
      have h5 := hL.2 (ofL [[e]] i + j) q this
      unfold enL
      rw [if_pos (by decide), ab_up_o (by decide), ab_up_o (by decide)]
      exact h5
    · rw [List.mem_singleton.mp hQ]; exact he
  exact ab_rV ok_La_setTo rfl (⟨rfl, _, rfl, (k0.tr (adL_k _ 77 0 (encI e)).q).tr (enL_k _ 77 0), hC⟩)
theorem t_Re_parseLaw_77 (hT : TC s t K P v nm) {n0 : Nat} (hR : Rd s K (.inl n0)) (hK0 : K n0 = 262) : ab_T g_Re_parseLaw (d + 23) (0, 0) [.ref 8, .ref 77] (HA fm X s t) (PLa fm X s t K 77 (lawT K v n0)) := by
  obtain ⟨F, hF⟩ : ∃ F, F = lawT K v n0 := ⟨_, rfl⟩
  rw [← hF]
  generalize hPo : PLa fm X s t K 77 F = Po
  have hFlen : ∀ q, F = .inl q → 1 ≤ q.2.length ∧ q.2.length ≤ 13 := fun q hq => by
    rw [hF] at hq
    obtain ⟨t1, b1, b2⟩ := bnd_in hq
    obtain ⟨t2, b3, b4⟩ := bnd_in b2
    have := lawL_len 4 t2 [] q b4
    simp only [List.length_nil] at this
    omega
  have sum1 : ∀ s1 Z, TC s1 t K P v nm → LwI s1 K 77 Z → ab_T g_Re_parseSum (d + 22) (0, 0) [.ref 8, .ref 77, .int 0] (HA fm X s1 t) (fun r h => r = none ∧ ∃ s2, h = HA fm X s2 t ∧ KS 77 s1 s2 ∧ Rd s2 K (mpT Prod.fst (bnd (mpT Prod.fst Z) (smT K v 6))) ∧ LwZ s2 77 ∧ ∀ a q, Z = .inl a → smT K v 6 a.1 = .inl q → LwC s2 77 (a.2.flatten ++ q.2)) := by
    intro s1 Z hT1 hI
    have hc := (t_exp_77 fm X t (K := K) (P := P) (v := v) (nm := nm) 6 (Nat.le_refl _) d).2 s1 (mpT Prod.fst Z) (flZ Z) hT1 hI.1 (fun n hn => by
      cases Z with
      | inr e => cases hn
      | inl q => cases hn; exact ⟨(hI.2.2.2 q rfl).1, (hI.2.2.2 q rfl).2.1⟩) hI.2.1
    refine ab_T_mono hc fun r h hp => ?_
    obtain ⟨rfl, s2, rfl, k2, hR2, hZ2, hq2⟩ := hp
    refine ⟨rfl, s2, rfl, k2, hR2, hZ2, fun a q ha hq => ?_⟩
    have := hq2 q (by rw [ha]; exact hq)
    rw [ha] at this
    exact this
  refine ab_T_of (M := m_Re_parseLaw) rfl rfl (Nat.le_of_ble_eq_true rfl) ?_
  show ab_Z m_Re_parseLaw _ _ _ 0 [_, _, _] [] _
  refine ab_go ok_Re_parseLaw 1 rfl ?_
  show ab_Z m_Re_parseLaw _ _ _ 1 [_, _, _] [_] _
  refine ab_cl ok_Re_parseLaw rfl [_] [] rfl ⟨_, _, rfl, rfl, Or.inl ⟨_, _, rfl, rfl⟩⟩ (Nat.le_of_ble_eq_true rfl) (t_La_clear_77 (d + 22) fm X s t) ?_
  rintro _ _ ⟨rfl, rfl⟩
  show ab_Z m_Re_parseLaw _ _ _ 2 [_, _, _] [] _
  have kc : KQ 77 s (ab_up (ab_up s 77 3 0) 77 4 0) := fun c k _ _ _ h => by
    by_cases hc : c = 77
    · subst hc
      rw [ab_up_n (fun z => h ⟨rfl, Or.inr z⟩), ab_up_n (fun z => h ⟨rfl, Or.inl z⟩)]
    · rw [ab_up_o hc, ab_up_o hc]
  have hTc := hT.k (kc.r (by decide)) (KRt.rf t)
  have c8 : ∀ j, ab_up (ab_up s 77 3 0) 77 4 0 8 j = s 8 j := fun j => by rw [ab_up_o (by decide), ab_up_o (by decide)]
  have hRc : Rd (ab_up (ab_up s 77 3 0) 77 4 0) K (.inl n0) := hR.of (c8 1) (c8 2) (c8 3)
  have hIc : LwI (ab_up (ab_up s 77 3 0) 77 4 0) K 77 (.inl (n0, [])) := by
    have h3 : ab_up (ab_up s 77 3 0) 77 4 0 77 3 = nI 0 := by rw [ab_up_n (by decide), ab_up_s]; rfl
    refine ⟨hRc, ⟨0, by decide, h3⟩, ⟨0, by decide, ab_up_s ..⟩, fun q hq => ?_⟩
    cases hq
    exact ⟨⟨h3, fun j q h => by simp at h⟩, Nat.zero_le _, ab_up_s .., fun i hi => absurd hi (by simp), fun Q hQ => by simp at hQ⟩
  generalize ab_up (ab_up s 77 3 0) 77 4 0 = s0 at kc hTc hRc hIc
  refine ab_go ok_Re_parseLaw 3 rfl ?_
  show ab_Z m_Re_parseLaw _ _ _ 5 [_, _, _] [_, _] _
  rw [hRc.2.1, hK0]
  refine ab_cl ok_Re_parseLaw rfl [_, _] [] rfl ⟨_, _, rfl, rfl, Or.inl ⟨_, _, rfl, rfl⟩⟩ (Nat.le_of_ble_eq_true rfl) (t_Re_accept (d + 22) fm X s0 t hTc hIc.1 (w := 262) (by decide) (by decide) _ rfl) ?_
  rintro _ _ ⟨rfl, s1, rfl, k1, hR1⟩
  show ab_Z m_Re_parseLaw _ _ _ 6 [_, _, _] [_] _
  have hI1 := hIc.acc (by decide) k1 hR1
  have hT1 := hTc.k k1.l.r (KRt.rf t)
  refine ab_go ok_Re_parseLaw 3 rfl ?_
  show ab_Z m_Re_parseLaw _ _ _ 9 [_, _, _] [_, _] _
  refine ab_cl ok_Re_parseLaw rfl [_, _] [] rfl ⟨_, _, rfl, rfl, Or.inl ⟨_, _, rfl, rfl⟩⟩ (Nat.le_of_ble_eq_true rfl) (t_Re_accept (d + 22) fm X s1 t hT1 hI1.1 (w := 61) (by decide) (by decide) _ rfl) ?_
  rintro _ _ ⟨rfl, s2, rfl, k2, hR2⟩
  show ab_Z m_Re_parseLaw _ _ _ 10 [_, _, _] [_] _
  have hI2 := hI1.acc (by decide) k2 hR2
  have hT2 := hT1.k k2.l.r (KRt.rf t)
  refine ab_go ok_Re_parseLaw 3 rfl ?_
  show ab_Z m_Re_parseLaw _ _ _ 13 [_, _, _] [] _
  have main := lp_dn 5 (fun n => ∀ s3 Z, KQ 77 s s3 → LwI s3 K 77 Z → (∀ q, Z = .inl q → q.2.length = 3 * n ∧ n ≤ 4) → (bnd Z fun q => lawL K v (4 - n) q.1 q.2) = F → ab_Z m_Re_parseLaw (d + 23) (0, 0) Po 13 [some (.ref 8), some (.ref 77), some (.int (nI n))] [] (HA fm X s3 t)) ?_ ?_
  · refine main s2 _ ((kc.tr k1.s.q).tr k2.s.q) hI2 (fun q hq => ?_) ?_
    · obtain ⟨a, b1, b2⟩ := bnd_in hq
      obtain ⟨a2, b3, b4⟩ := bnd_in b2
      cases b4
      obtain ⟨a3, b5, b6⟩ := bnd_in b1
      cases b5
      obtain ⟨a4, b7, b8⟩ := bnd_in b6
      cases b8
      exact ⟨rfl, by decide⟩
    · rw [hF]
      unfold acZ lawT
      rw [bnd_l, show eatT K 262 (n0, ([] : List (List Ins))).1 = goT n0 from by unfold eatT; rw [if_pos hK0]]
      cases goT n0 with
      | inr e => rfl
      | inl t1 =>
        simp only [bnd_l]
        cases eatT K 61 t1 <;> rfl
  · intro s3 Z k3 hI3 hlen hFe
    cases hZc : Z with
    | inl q => have := (hlen q hZc).2; omega
    | inr e =>
      rw [hZc] at hI3 hFe
      have hT3 := hT.k (k3.r (by decide)) (KRt.rf t)
      obtain ⟨q0, hq1, hq2⟩ := hI3.2.2.1
      refine ab_go ok_Re_parseLaw 2 rfl ?_
      show ab_Z m_Re_parseLaw _ _ _ 15 [_, _, _] [_, _] _
      refine ab_go ok_Re_parseLaw 1 rfl ?_
      show ab_Z m_Re_parseLaw _ _ _ 65 [_, _, _] [] _
      refine ab_go ok_Re_parseLaw 3 rfl ?_
      show ab_Z m_Re_parseLaw _ _ _ 68 [_, _, _] [_, _, _] _
      refine ab_cl ok_Re_parseLaw rfl [_, _, _] [] rfl ⟨_, _, rfl, rfl, Or.inl ⟨_, _, rfl, rfl⟩⟩ (Nat.le_of_ble_eq_true rfl) (sum1 s3 (.inr e) hT3 hI3) ?_
      rintro _ _ ⟨rfl, s4, rfl, k4, hR4, hZ4, -⟩
      show ab_Z m_Re_parseLaw _ _ _ 69 [_, _, _] [] _
      refine ab_go ok_Re_parseLaw 1 rfl ?_
      show ab_Z m_Re_parseLaw _ _ _ 70 [_, _, _] [_] _
      refine ab_cl ok_Re_parseLaw rfl [_] [] rfl ⟨_, _, rfl, rfl, Or.inl ⟨_, _, rfl, rfl⟩⟩ (Nat.le_of_ble_eq_true rfl) (t_La_endPart_77 (d + 22) fm X s4 t hq1 ((k4 77 4 (by omega) (by omega) (by omega)).trans hq2)) ?_
      rintro _ _ ⟨rfl, rfl⟩
      show ab_Z m_Re_parseLaw _ _ _ 71 [_, _, _] [] _
      have fin : Po none (HA fm X (enL s4 77 q0) t) := by
        rw [← hPo, ← hFe]
        refine ⟨rfl, _, rfl, (k3.tr k4.q).tr (enL_k s4 77 q0), ?_, fun q hq => by cases hq⟩
        have e8 : ∀ j, enL s4 77 q0 8 j = s4 8 j := fun j => by
          unfold enL
          split
          · rw [ab_up_o (by decide), ab_up_o (by decide)]
          · rfl
        exact hR4.of (e8 1) (e8 2) (e8 3)
      exact ab_rV ok_Re_parseLaw rfl (fin)
  · intro n hn ih s3 Z k3 hI3 hlen hFe
    have hT3 := hT.k (k3.r (by decide)) (KRt.rf t)
    have last : (∀ q, Z = .inl q → K q.1 ≠ 265) → ab_Z m_Re_parseLaw (d + 23) (0, 0) Po 65 [some (.ref 8), some (.ref 77), some (.int (nI n))] [] (HA fm X s3 t) := by
      intro hk
      obtain ⟨q0, hq1, hq2⟩ := hI3.2.2.1
      have hFZ : F = ptZ K v Z := by
        rw [← hFe]
        unfold ptZ
        refine bnd_cg (fun q hq => ?_)
        have h0 := hk q hq
        cases hn4 : 4 - n with
        | zero => rw [lawL, if_neg h0]
        | succ m => rw [lawL, if_neg h0]
      refine ab_go ok_Re_parseLaw 3 rfl ?_
      show ab_Z m_Re_parseLaw _ _ _ 68 [_, _, _] [_, _, _] _
      refine ab_cl ok_Re_parseLaw rfl [_, _, _] [] rfl ⟨_, _, rfl, rfl, Or.inl ⟨_, _, rfl, rfl⟩⟩ (Nat.le_of_ble_eq_true rfl) (sum1 s3 Z hT3 hI3) ?_
      rintro _ _ ⟨rfl, s4, rfl, k4, hR4, hZ4, hq4⟩
      show ab_Z m_Re_parseLaw _ _ _ 69 [_, _, _] [] _
      refine ab_go ok_Re_parseLaw 1 rfl ?_
      show ab_Z m_Re_parseLaw _ _ _ 70 [_, _, _] [_] _
      refine ab_cl ok_Re_parseLaw rfl [_] [] rfl ⟨_, _, rfl, rfl, Or.inl ⟨_, _, rfl, rfl⟩⟩ (Nat.le_of_ble_eq_true rfl) (t_La_endPart_77 (d + 22) fm X s4 t hq1 ((k4 77 4 (by omega) (by omega) (by omega)).trans hq2)) ?_
      rintro _ _ ⟨rfl, rfl⟩
      show ab_Z m_Re_parseLaw _ _ _ 71 [_, _, _] [] _
      have hI5 := hI3.part (by decide) hT.2.2.1 hT.2.1 (fun q hq => by have := hlen q hq; omega) k4 hR4 hZ4 hq4 hq1 hq2
      have fin : Po none (HA fm X (enL s4 77 q0) t) := by
        rw [← hPo]
        refine ⟨rfl, _, rfl, (k3.tr k4.q).tr (enL_k s4 77 q0), by rw [hFZ]; exact hI5.1, fun q hq => ?_⟩
        have hl := hFlen q hq
        rw [hFZ] at hq
        exact hI5.law hq hl.1 hl.2
      exact ab_rV ok_Re_parseLaw rfl (fin)
    refine ab_go ok_Re_parseLaw 2 rfl ?_
    show ab_Z m_Re_parseLaw _ _ _ 15 [_, _, _] [_, _] _
    refine ab_br ok_Re_parseLaw rfl rfl ?_ ?_
    · intro h1
      show ab_Z m_Re_parseLaw _ _ _ 65 [_, _, _] [] _
      have := i_ltK (z := 4) rfl h1
      rw [nI_t (by omega)] at this
      omega
    · intro h1
      show ab_Z m_Re_parseLaw _ _ _ 16 [_, _, _] [] _
      refine ab_go ok_Re_parseLaw 2 rfl ?_
      show ab_Z m_Re_parseLaw _ _ _ 18 [_, _, _] [_] _
      cases hZc : Z with
      | inr e =>
        have hI3' := hI3
        rw [hZc] at hI3'
        obtain ⟨⟨a1, a2, a3, a4⟩, -⟩ := hI3'
        rw [a2]
        refine ab_br ok_Re_parseLaw rfl rfl ?_ ?_
        · intro h2
          show ab_Z m_Re_parseLaw _ _ _ 19 [_, _, _] [] _
          exact absurd h2 (nI_ne0 (by omega) (by omega))
        · intro h2
          show ab_Z m_Re_parseLaw _ _ _ 65 [_, _, _] [] _
          exact last (fun q hq => by rw [hZc] at hq; cases hq)
      | inl q =>
        have hI3' := hI3
        rw [hZc] at hI3'
        obtain ⟨⟨a1, a2, a3, a4⟩, -⟩ := hI3'
        have hKq := hT.2.1 q.1
        have hlq := hlen q hZc
        rw [a3]
        refine ab_go ok_Re_parseLaw 1 rfl ?_
        show ab_Z m_Re_parseLaw _ _ _ 19 [_, _, _] [] _
        refine ab_go ok_Re_parseLaw 3 rfl ?_
        show ab_Z m_Re_parseLaw _ _ _ 22 [_, _, _] [_, _] _
        rw [show s3 8 2 = nI (K q.1) from a2]
        refine ab_br ok_Re_parseLaw rfl rfl ?_ ?_
        · intro h2
          show ab_Z m_Re_parseLaw _ _ _ 23 [_, _, _] [] _
          have h2' : K q.1 = 265 := (nI_eq (b := 265) (by omega) (by decide)).mp h2
          -- Z1: behind the word
          have body : ∀ s4 Z0, KQ 77 s s4 → LwI s4 K 77 Z0 → (∀ a, Z0 = .inl a → a.2.length = 3 * n ∧ n ≤ 3) → (∀ a, Z0 = .inl a → K a.1 = 265) → (∀ Zn, (bnd (acZ K 267 (ptZ K v (acZ K 266 (ptZ K v (acZ K 60 (ptZ K v (acZ K 265 Z0))))))) fun q => lawL K v (4 - (n + 1)) q.1 q.2) = Zn → Zn = F) → ab_Z m_Re_parseLaw (d + 23) (0, 0) Po 29 [some (.ref 8), some (.ref 77), some (.int (nI n))] [] (HA fm X s4 t) := by
            intro s4 Z0 k4 hI4 hl0 hk0 hFin
            have hT4 := hT.k (k4.r (by decide)) (KRt.rf t)
            have hl1 : ∀ a, acZ K 265 Z0 = .inl a → a.2.length = 3 * n ∧ n ≤ 3 := fun a ha => by
              obtain ⟨b, b1, b2⟩ := bnd_in ha
              obtain ⟨c, b3, b4⟩ := bnd_in b2
              cases b4
              exact hl0 b b1
            have hl2 : ∀ a, acZ K 60 (ptZ K v (acZ K 265 Z0)) = .inl a → a.2.length = 3 * n + 1 ∧ n ≤ 3 := fun a ha => by
              obtain ⟨b, b1, b2⟩ := bnd_in ha
              obtain ⟨c, b3, b4⟩ := bnd_in b2
              cases b4
              obtain ⟨b', b5, b6⟩ := bnd_in b1
              obtain ⟨c', b7, b8⟩ := bnd_in b6
              cases b8
              have := hl1 b' b5
              simp only [List.length_append, List.length_singleton]
              omega
            have hl3 : ∀ a, acZ K 266 (ptZ K v (acZ K 60 (ptZ K v (acZ K 265 Z0)))) = .inl a → a.2.length = 3 * n + 2 ∧ n ≤ 3 := fun a ha => by
              obtain ⟨b, b1, b2⟩ := bnd_in ha
              obtain ⟨c, b3, b4⟩ := bnd_in b2
              cases b4
              obtain ⟨b', b5, b6⟩ := bnd_in b1
              obtain ⟨c', b7, b8⟩ := bnd_in b6
              cases b8
              have := hl2 b' b5
              simp only [List.length_append, List.length_singleton]
              omega
            refine ab_go ok_Re_parseLaw 2 rfl ?_
            show ab_Z m_Re_parseLaw _ _ _ 31 [_, _, _] [_, _] _
            refine ab_cl ok_Re_parseLaw rfl [_, _] [] rfl ⟨_, _, rfl, rfl, Or.inl ⟨_, _, rfl, rfl⟩⟩ (Nat.le_of_ble_eq_true rfl) (t_Re_accept (d + 22) fm X s4 t hT4 hI4.1 (w := 265) (by decide) (by decide) _ rfl) ?_
            rintro _ _ ⟨rfl, s5, rfl, k5, hR5⟩
            show ab_Z m_Re_parseLaw _ _ _ 32 [_, _, _] [_] _
            have hI5 := hI4.acc (by decide) k5 hR5
            have hT5 := hT4.k k5.l.r (KRt.rf t)
            refine ab_go ok_Re_parseLaw 4 rfl ?_
            show ab_Z m_Re_parseLaw _ _ _ 36 [_, _, _] [_, _, _] _
            refine ab_cl ok_Re_parseLaw rfl [_, _, _] [] rfl ⟨_, _, rfl, rfl, Or.inl ⟨_, _, rfl, rfl⟩⟩ (Nat.le_of_ble_eq_true rfl) (sum1 s5 _ hT5 hI5) ?_
            rintro _ _ ⟨rfl, s6, rfl, k6, hR6, hZ6, hq6⟩
            show ab_Z m_Re_parseLaw _ _ _ 37 [_, _, _] [] _
            obtain ⟨p6, hp61, hp62⟩ := hI5.2.2.1
            refine ab_go ok_Re_parseLaw 1 rfl ?_
            show ab_Z m_Re_parseLaw _ _ _ 38 [_, _, _] [_] _
            refine ab_cl ok_Re_parseLaw rfl [_] [] rfl ⟨_, _, rfl, rfl, Or.inl ⟨_, _, rfl, rfl⟩⟩ (Nat.le_of_ble_eq_true rfl) (t_La_endPart_77 (d + 22) fm X s6 t hp61 ((k6 77 4 (by omega) (by omega) (by omega)).trans hp62)) ?_
            rintro _ _ ⟨rfl, rfl⟩
            show ab_Z m_Re_parseLaw _ _ _ 39 [_, _, _] [] _
            have hI7 := hI5.part (by decide) hT.2.2.1 hT.2.1 (fun q hq => by have := hl1 q hq; omega) k6 hR6 hZ6 hq6 hp61 hp62
            have k47 : KQ 77 s (enL s6 77 p6) := ((k4.tr k5.s.q).tr k6.q).tr (enL_k s6 77 p6)
            generalize enL s6 77 p6 = s7 at hI7 k47 ⊢
            have hT7 := hT.k (k47.r (by decide)) (KRt.rf t)
            refine ab_go ok_Re_parseLaw 2 rfl ?_
            show ab_Z m_Re_parseLaw _ _ _ 41 [_, _, _] [_, _] _
            refine ab_cl ok_Re_parseLaw rfl [_, _] [] rfl ⟨_, _, rfl, rfl, Or.inl ⟨_, _, rfl, rfl⟩⟩ (Nat.le_of_ble_eq_true rfl) (t_Re_accept (d + 22) fm X s7 t hT7 hI7.1 (w := 60) (by decide) (by decide) _ rfl) ?_
            rintro _ _ ⟨rfl, s8, rfl, k8, hR8⟩
            show ab_Z m_Re_parseLaw _ _ _ 42 [_, _, _] [_] _
            have hI8 := hI7.acc (by decide) k8 hR8
            have hT8 := hT7.k k8.l.r (KRt.rf t)
            refine ab_go ok_Re_parseLaw 4 rfl ?_
            show ab_Z m_Re_parseLaw _ _ _ 46 [_, _, _] [_, _, _] _
            refine ab_cl ok_Re_parseLaw rfl [_, _, _] [] rfl ⟨_, _, rfl, rfl, Or.inl ⟨_, _, rfl, rfl⟩⟩ (Nat.le_of_ble_eq_true rfl) (sum1 s8 _ hT8 hI8) ?_
            rintro _ _ ⟨rfl, s9, rfl, k9, hR9, hZ9, hq9⟩
            show ab_Z m_Re_parseLaw _ _ _ 47 [_, _, _] [] _
            obtain ⟨p9, hp91, hp92⟩ := hI8.2.2.1
            refine ab_go ok_Re_parseLaw 1 rfl ?_
            show ab_Z m_Re_parseLaw _ _ _ 48 [_, _, _] [_] _
            refine ab_cl ok_Re_parseLaw rfl [_] [] rfl ⟨_, _, rfl, rfl, Or.inl ⟨_, _, rfl, rfl⟩⟩ (Nat.le_of_ble_eq_true rfl) (t_La_endPart_77 (d + 22) fm X s9 t hp91 ((k9 77 4 (by omega) (by omega) (by omega)).trans hp92)) ?_
            rintro _ _ ⟨rfl, rfl⟩
            show ab_Z m_Re_parseLaw _ _ _ 49 [_, _, _] [] _
            have hI10 := hI8.part (by decide) hT.2.2.1 hT.2.1 (fun q hq => by have := hl2 q hq; omega) k9 hR9 hZ9 hq9 hp91 hp92
            have k410 : KQ 77 s (enL s9 77 p9) := ((k47.tr k8.s.q).tr k9.q).tr (enL_k s9 77 p9)
            generalize enL s9 77 p9 = s10 at hI10 k410 ⊢
            have hT10 := hT.k (k410.r (by decide)) (KRt.rf t)
            refine ab_go ok_Re_parseLaw 2 rfl ?_
            show ab_Z m_Re_parseLaw _ _ _ 51 [_, _, _] [_, _] _
            refine ab_cl ok_Re_parseLaw rfl [_, _] [] rfl ⟨_, _, rfl, rfl, Or.inl ⟨_, _, rfl, rfl⟩⟩ (Nat.le_of_ble_eq_true rfl) (t_Re_accept (d + 22) fm X s10 t hT10 hI10.1 (w := 266) (by decide) (by decide) _ rfl) ?_
            rintro _ _ ⟨rfl, s11, rfl, k11, hR11⟩
            show ab_Z m_Re_parseLaw _ _ _ 52 [_, _, _] [_] _
            have hI11 := hI10.acc (by decide) k11 hR11
            have hT11 := hT10.k k11.l.r (KRt.rf t)
            refine ab_go ok_Re_parseLaw 4 rfl ?_
            show ab_Z m_Re_parseLaw _ _ _ 56 [_, _, _] [_, _, _] _
            refine ab_cl ok_Re_parseLaw rfl [_, _, _] [] rfl ⟨_, _, rfl, rfl, Or.inl ⟨_, _, rfl, rfl⟩⟩ (Nat.le_of_ble_eq_true rfl) (sum1 s11 _ hT11 hI11) ?_
            rintro _ _ ⟨rfl, s12, rfl, k12, hR12, hZ12, hq12⟩
            show ab_Z m_Re_parseLaw _ _ _ 57 [_, _, _] [] _
            obtain ⟨p12, hp121, hp122⟩ := hI11.2.2.1
            refine ab_go ok_Re_parseLaw 1 rfl ?_
            show ab_Z m_Re_parseLaw _ _ _ 58 [_, _, _] [_] _
            refine ab_cl ok_Re_parseLaw rfl [_] [] rfl ⟨_, _, rfl, rfl, Or.inl ⟨_, _, rfl, rfl⟩⟩ (Nat.le_of_ble_eq_true rfl) (t_La_endPart_77 (d + 22) fm X s12 t hp121 ((k12 77 4 (by omega) (by omega) (by omega)).trans hp122)) ?_
            rintro _ _ ⟨rfl, rfl⟩
            show ab_Z m_Re_parseLaw _ _ _ 59 [_, _, _] [] _
            have hI13 := hI11.part (by decide) hT.2.2.1 hT.2.1 (fun q hq => by have := hl3 q hq; omega) k12 hR12 hZ12 hq12 hp121 hp122
            have k413 : KQ 77 s (enL s12 77 p12) := ((k410.tr k11.s.q).tr k12.q).tr (enL_k s12 77 p12)
            generalize enL s12 77 p12 = s13 at hI13 k413 ⊢
            have hT13 := hT.k (k413.r (by decide)) (KRt.rf t)
            refine ab_go ok_Re_parseLaw 2 rfl ?_
            show ab_Z m_Re_parseLaw _ _ _ 61 [_, _, _] [_, _] _
            refine ab_cl ok_Re_parseLaw rfl [_, _] [] rfl ⟨_, _, rfl, rfl, Or.inl ⟨_, _, rfl, rfl⟩⟩ (Nat.le_of_ble_eq_true rfl) (t_Re_accept (d + 22) fm X s13 t hT13 hI13.1 (w := 267) (by decide) (by decide) _ rfl) ?_
            rintro _ _ ⟨rfl, s14, rfl, k14, hR14⟩
            show ab_Z m_Re_parseLaw _ _ _ 62 [_, _, _] [_] _
            have hI14 := hI13.acc (by decide) k14 hR14
            refine ab_go ok_Re_parseLaw 3 rfl ?_
            show ab_Z m_Re_parseLaw _ _ _ 13 [_, _, _] [] _
            rw [← nI_succ]
            refine ih s14 _ (k413.tr k14.s.q) hI14 (fun a ha => ?_) (hFin _ rfl)
            obtain ⟨b, b1, b2⟩ := bnd_in ha
            obtain ⟨c, b3, b4⟩ := bnd_in b2
            cases b4
            obtain ⟨b', b5, b6⟩ := bnd_in b1
            obtain ⟨c', b7, b8⟩ := bnd_in b6
            cases b8
            have := hl3 b' b5
            simp only [List.length_append, List.length_singleton]
            omega
          refine ab_go ok_Re_parseLaw 2 rfl ?_
          show ab_Z m_Re_parseLaw _ _ _ 25 [_, _, _] [_, _] _
          refine ab_br ok_Re_parseLaw rfl rfl ?_ ?_
          · intro h3
            show ab_Z m_Re_parseLaw _ _ _ 26 [_, _, _] [] _
            have h3' : n = 4 := (nI_eq (b := 4) (by omega) (by decide)).mp h3
            have hFe2 : F = .inr (2, q.1) := by
              rw [← hFe, hZc, bnd_l, h3', Nat.sub_self, lawL, if_pos h2']
            refine ab_go ok_Re_parseLaw 2 rfl ?_
            show ab_Z m_Re_parseLaw _ _ _ 28 [_, _, _] [_, _] _
            refine ab_cl ok_Re_parseLaw rfl [_, _] [] rfl ⟨_, _, rfl, rfl, Or.inl ⟨_, _, rfl, rfl⟩⟩ (Nat.le_of_ble_eq_true rfl) (t_Re_fail (d + 22) fm X s3 t hI3.1 (c := 2) (by omega) _ rfl) ?_
            rintro _ _ ⟨rfl, s4, rfl, k4, hR4⟩
            show ab_Z m_Re_parseLaw _ _ _ 29 [_, _, _] [] _
            have hI4 : LwI s4 K 77 (.inr (2, q.1)) := by
              obtain ⟨-, u2, ⟨u3, u4, u5⟩, -⟩ := hI3
              rw [hZc] at hR4
              exact ⟨hR4, k4.z (by decide) u2, ⟨u3, u4, (k4 77 4 (by omega)).trans u5⟩, fun q hq => by cases hq⟩
            exact body s4 (.inr (2, q.1)) (k3.tr k4.s.q) hI4 (fun a ha => by cases ha) (fun a ha => by cases ha) (fun Zn hZn => by rw [← hZn, hFe2]; rfl)
          · intro h3
            show ab_Z m_Re_parseLaw _ _ _ 29 [_, _, _] [] _
            have h3' : n ≠ 4 := fun z => h3 (by rw [z]; rfl)
            refine body s3 Z k3 hI3 (fun a ha => by have := hlen a ha; omega) (fun a ha => by rw [hZc] at ha; cases ha; exact h2') (fun Zn hZn => ?_)
            rw [← hZn, ← hFe, hZc, show 4 - n = (4 - (n + 1)) + 1 by omega]
            simp only [bnd_l]
            rw [lawL, if_pos h2']
            unfold acZ ptZ
            rw [bnd_l, show eatT K 265 q.1 = goT q.1 from by unfold eatT; rw [if_pos h2']]
            cases goT q.1 with
            | inr e => rfl
            | inl t1 =>
              simp only [bnd_l]
              cases smT K v 6 t1 with
              | inr e => rfl
              | inl q1 =>
                simp only [bnd_l]
                cases eatT K 60 q1.1 with
                | inr e => rfl
                | inl t2 =>
                  simp only [bnd_l]
                  cases smT K v 6 t2 with
                  | inr e => rfl
                  | inl q2 =>
                    simp only [bnd_l]
                    cases eatT K 266 q2.1 with
                    | inr e => rfl
                    | inl t3 =>
                      simp only [bnd_l]
                      cases smT K v 6 t3 with
                      | inr e => rfl
                      | inl q3 =>
                        simp only [bnd_l]
                        cases eatT K 267 q3.1 with
                        | inr e => rfl
                        | inl t4 =>
                          simp only [bnd_l]
                          rw [List.append_assoc, List.append_assoc]
                          rfl
        · intro h2
          show ab_Z m_Re_parseLaw _ _ _ 65 [_, _, _] [] _
          exact last (fun a ha => by rw [hZc] at ha; cases ha; exact fun z => h2 (by rw [z]; rfl))
end

