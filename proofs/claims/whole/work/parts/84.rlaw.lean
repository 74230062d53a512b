/-! the reference reads a law -/
def KB (c0 ce b0 be : Nat) (s s' : Nat → Nat → Int32) : Prop := ∀ c k, ¬ (c = 81 ∧ (k = 11 ∨ k = 12 ∨ k = 13 ∨ k = 14 ∨ k = 36 ∨ k = 42 ∨ k = 46)) → c ≠ 111 → ¬ ((c = 109 ∨ c = 110) ∧ c0 ≤ k ∧ k < ce) → ¬ (104 ≤ c ∧ c ≤ 108 ∧ b0 ≤ k ∧ k < be) → s' c k = s c k
theorem KB.rf (c0 ce b0 be : Nat) (s : Nat → Nat → Int32) : KB c0 ce b0 be s s := fun _ _ _ _ _ _ => rfl
theorem KB.tr {c0 ce b0 be : Nat} {a b c : Nat → Nat → Int32} (h : KB c0 ce b0 be a b) (g : KB c0 ce b0 be b c) : KB c0 ce b0 be a c := fun x k p q r u => (g x k p q r u).trans (h x k p q r u)
theorem KB.mo {c0 ce b0 be c1 b1 be1 : Nat} {a b : Nat → Nat → Int32} (hc : c0 ≤ c1) (hb : b0 ≤ b1) (hb2 : be1 ≤ be) (h : KB c1 ce b1 be1 a b) : KB c0 ce b0 be a b := fun x k p q r u => h x k p q (by omega) (by omega)
theorem KX.b {c0 ce b0 be : Nat} {a b : Nat → Nat → Int32} (h : KX c0 ce a b) : KB c0 ce b0 be a b := fun x k p q r _ => h x k (by omega) q r
theorem KB.u {c0 ce b0 be : Nat} {a b : Nat → Nat → Int32} {c j : Nat} {x : Int32} (hc : (c = 81 ∧ (j = 11 ∨ j = 12 ∨ j = 13 ∨ j = 14 ∨ j = 36 ∨ j = 42 ∨ j = 46)) ∨ (104 ≤ c ∧ c ≤ 108 ∧ b0 ≤ j ∧ j < be)) (h : KB c0 ce b0 be a b) : KB c0 ce b0 be a (ab_up b c j x) := fun y k p q r u => by
  by_cases h1 : y = c
  · subst h1
    by_cases h2 : k = j
    · subst h2
      rcases hc with z | z
      · exact absurd z p
      · exact absurd z u
    · rw [ab_up_n h2]
      exact h y k p q r u
  · rw [ab_up_o h1]
    exact h y k p q r u
theorem KB.T {c0 ce b0 be : Nat} {s s' : Nat → Nat → Int32} {t : Nat → Nat → Int64} {K P v : Nat → Nat} {nm : Nat → List Nat} (h : KB c0 ce b0 be s s') (hT : TM s t K P v nm) : TM s' t K P v nm := by
  have e : ∀ c, c = 84 ∨ c = 85 ∨ c = 86 → s' c = s c := fun c hc => funext fun k => h c k (by omega) (by omega) (by omega) (by omega)
  exact hT.of (e 84 (by omega)) (e 85 (by omega)) (e 86 (by omega)) rfl
def cdN (s : Nat → Nat → Int32) (cl ch x : Nat) (Q : List Ins) : Prop := cl ≤ x ∧ x + Q.length ≤ ch ∧ cdM s x Q ∧ okQ Q 0
theorem cdM.of {s s' : Nat → Nat → Int32} {x : Nat} {Q : List Ins} (h : ∀ k, x ≤ k → k < x + Q.length → s' 109 k = s 109 k ∧ s' 110 k = s 110 k) (g : cdM s x Q) : cdM s' x Q := fun j q hq => by
  have hj : j < Q.length := (List.getElem?_eq_some_iff.mp hq).1
  obtain ⟨h1, h2⟩ := h (x + j) (by omega) (by omega)
  rw [h1, h2]
  exact g j q hq
theorem cdN.of {s s' : Nat → Nat → Int32} {cl ch ch' x : Nat} {Q : List Ins} (h : ∀ k, cl ≤ k → k < ch → s' 109 k = s 109 k ∧ s' 110 k = s 110 k) (hc : ch ≤ ch') (g : cdN s cl ch x Q) : cdN s' cl ch' x Q := by
  obtain ⟨g1, g2, g3, g4⟩ := g
  exact ⟨g1, by omega, g3.of (fun k h1 h2 => h k (by omega) (by omega)), g4⟩
/-- a branch with a test -/
def br1 (s : Nat → Nat → Int32) (cl ch b : Nat) (a e c : List Ins) : Prop := ∃ x, s 104 b = 1 ∧ s 105 b = nI x ∧ s 106 b = nI (x + a.length) ∧ s 107 b = nI (x + a.length + e.length) ∧ s 108 b = nI (x + a.length + e.length + c.length) ∧ cdN s cl ch x a ∧ cdN s cl ch (x + a.length) e ∧ cdN s cl ch (x + a.length + e.length) c
def br0 (s : Nat → Nat → Int32) (cl ch b : Nat) (c : List Ins) : Prop := ∃ x, s 104 b = 0 ∧ s 107 b = nI x ∧ s 108 b = nI (x + c.length) ∧ cdN s cl ch x c
theorem br1.of {s s' : Nat → Nat → Int32} {cl ch ch' b : Nat} {a e c : List Ins} (h : ∀ k, cl ≤ k → k < ch → s' 109 k = s 109 k ∧ s' 110 k = s 110 k) (hc : ch ≤ ch') (hb : ∀ j, 104 ≤ j → j ≤ 108 → s' j b = s j b) (g : br1 s cl ch b a e c) : br1 s' cl ch' b a e c := by
  obtain ⟨x, g1, g2, g3, g4, g5, g6, g7, g8⟩ := g
  exact ⟨x, (hb 104 (by decide) (by decide)).trans g1, (hb 105 (by decide) (by decide)).trans g2, (hb 106 (by decide) (by decide)).trans g3, (hb 107 (by decide) (by decide)).trans g4, (hb 108 (by decide) (by decide)).trans g5, g6.of h hc, g7.of h hc, g8.of h hc⟩
theorem br0.of {s s' : Nat → Nat → Int32} {cl ch ch' b : Nat} {c : List Ins} (h : ∀ k, cl ≤ k → k < ch → s' 109 k = s 109 k ∧ s' 110 k = s 110 k) (hc : ch ≤ ch') (hb : ∀ j, 104 ≤ j → j ≤ 108 → s' j b = s j b) (g : br0 s cl ch b c) : br0 s' cl ch' b c := by
  obtain ⟨x, g1, g2, g3, g4⟩ := g
  exact ⟨x, (hb 104 (by decide) (by decide)).trans g1, (hb 107 (by decide) (by decide)).trans g2, (hb 108 (by decide) (by decide)).trans g3, g4.of h hc⟩
def RBp (s : Nat → Nat → Int32) (cl ch b : Nat) : Nat → List (List Ins) → Prop
  | 0, P => P = []
  | n + 1, P => ∃ P' a e c, P = P' ++ [a, e, c] ∧ RBp s cl ch b n P' ∧ br1 s cl ch (b + n) a e c
theorem RBp.of {s s' : Nat → Nat → Int32} {cl ch ch' b : Nat} (h : ∀ k, cl ≤ k → k < ch → s' 109 k = s 109 k ∧ s' 110 k = s 110 k) (hc : ch ≤ ch') : ∀ {n : Nat} {P : List (List Ins)}, (∀ j k, 104 ≤ j → j ≤ 108 → b ≤ k → k < b + n → s' j k = s j k) → RBp s cl ch b n P → RBp s' cl ch' b n P
  | 0, P, hb, g => g
  | n + 1, P, hb, g => by
    obtain ⟨P', a, e, c, g1, g2, g3⟩ := g
    exact ⟨P', a, e, c, g1, RBp.of h hc (fun j k p q r u => hb j k p q r (by omega)) g2, g3.of h hc (fun j p q => hb j _ p q (by omega) (by omega))⟩
/-- a law, whole: n tests from branch b on, the last term -/
def RBM (s : Nat → Nat → Int32) (cl ch b n : Nat) (P : List (List Ins)) : Prop := ∃ P' c, P = P' ++ [c] ∧ RBp s cl ch b n P' ∧ br0 s cl ch (b + n) c
theorem RBM.of {s s' : Nat → Nat → Int32} {cl ch ch' b n : Nat} {P : List (List Ins)} (h : ∀ k, cl ≤ k → k < ch → s' 109 k = s 109 k ∧ s' 110 k = s 110 k) (hc : ch ≤ ch') (hb : ∀ j k, 104 ≤ j → j ≤ 108 → b ≤ k → k < b + n + 1 → s' j k = s j k) (g : RBM s cl ch b n P) : RBM s' cl ch' b n P := by
  obtain ⟨P', c, g1, g2, g3⟩ := g
  exact ⟨P', c, g1, g2.of h hc (fun j k p q r u => hb j k p q r (by omega)), g3.of h hc (fun j p q => hb j _ p q (by omega) (by omega))⟩
theorem cdN.A {s : Nat → Nat → Int32} {cl ch x : Nat} {Q : List Ins} (h8 : ch ≤ 840) (g : cdN s cl ch x Q) : cdA s x Q := ⟨by have := g.2.1; omega, g.2.2.1, g.2.2.2⟩
theorem RBp_r {s : Nat → Nat → Int32} {cl ch : Nat} (h8 : ch ≤ 840) : ∀ {n b m : Nat} {P Q : List (List Ins)}, RBp s cl ch b n P → RBr s (b + n) m Q → RBr s b (n + m) (P ++ Q)
  | 0, b, m, P, Q, g, r => by
    rw [show P = [] from g, Nat.zero_add]
    exact r
  | n + 1, b, m, P, Q, g, r => by
    obtain ⟨P', a, e, c, g1, g2, x, g3, g4, g5, g6, g7, g8, g9, g10⟩ := g
    have h := RBp_r h8 (m := m + 1) (Q := a :: e :: c :: Q) g2 ⟨a, e, c, Q, x, rfl, g3, g4, g5, g6, g7, g8.A h8, g9.A h8, g10.A h8, r⟩
    rw [g1, List.append_assoc, show n + 1 + m = n + (m + 1) by omega]
    exact h
theorem RBM.r {s : Nat → Nat → Int32} {cl ch b n : Nat} {P : List (List Ins)} (h8 : ch ≤ 840) (g : RBM s cl ch b n P) : RBr s b n P := by
  obtain ⟨P', c, g1, g2, x, g3, g4, g5, g6⟩ := g
  have h := RBp_r h8 (m := 0) (Q := [c]) g2 ⟨c, x, rfl, g3, g4, g5, g6.A h8⟩
  rw [g1]
  exact h
def LwM (s : Nat → Nat → Int32) (sd k : Nat) (P pl : List (List Ins)) (ch bh : Nat) : Prop := (s 102 (4 * sd + k) = s 103 (4 * sd + k) ∧ P = pl) ∨ ∃ f n, s 102 (4 * sd + k) = nI f ∧ s 103 (4 * sd + k) = nI (f + (n + 1)) ∧ 130 * sd ≤ f ∧ f + (n + 1) ≤ bh ∧ RBM s (420 * sd) ch f n P
theorem LwM.of {s s' : Nat → Nat → Int32} {sd k : Nat} {P pl : List (List Ins)} {ch bh ch' bh' : Nat} (h2 : s' 102 (4 * sd + k) = s 102 (4 * sd + k)) (h3 : s' 103 (4 * sd + k) = s 103 (4 * sd + k)) (h : ∀ k, 420 * sd ≤ k → k < ch → s' 109 k = s 109 k ∧ s' 110 k = s 110 k) (hb : ∀ j k, 104 ≤ j → j ≤ 108 → 130 * sd ≤ k → k < bh → s' j k = s j k) (hc : ch ≤ ch') (hbh : bh ≤ bh') (g : LwM s sd k P pl ch bh) : LwM s' sd k P pl ch' bh' := by
  rcases g with ⟨g1, g2⟩ | ⟨f, n, g1, g2, g3, g4, g5⟩
  · exact Or.inl ⟨by rw [h2, h3]; exact g1, g2⟩
  · exact Or.inr ⟨f, n, h2.trans g1, h3.trans g2, g3, by omega, g5.of h hc (fun j k p q r u => hb j k p q (by omega) (by omega))⟩
theorem LwM.R {s : Nat → Nat → Int32} {sd k : Nat} {P pl : List (List Ins)} {ch bh : Nat} (h8 : ch ≤ 840) (hb : bh ≤ 260) (g : LwM s sd k P pl ch bh) : RLaw s (4 * sd + k) P pl := by
  rcases g with g | ⟨f, n, g1, g2, g3, g4, g5⟩
  · exact Or.inl g
  · exact Or.inr ⟨f, n, g1, g2, by omega, g5.r h8⟩
section
variable (d : Nat) (fm : Value) (X : Nat × (Nat → Int32)) (s : Nat → Nat → Int32) (t : Nat → Nat → Int64)
variable {K P v : Nat → Nat} {nm : Nat → List Nat}
theorem t_Mo_term (hT : TM s t K P v nm) {c0 ce : Nat} (he : ce ≤ 840) {R : Rs Nat} (hR : RdM s K P R) (hc0 : ∀ n, R = .inl n → s 81 42 = nI c0 ∧ c0 + 420 ≤ ce + n ∧ s 81 12 = 0) {b : Nat} (hb : s 81 36 = nI b) (hb2 : b < 260) : ab_T g_Mo_term (d + 4) (0, 0) [.ref 81] (HA fm X s t) (fun r h => r = none ∧ ∃ s', h = HA fm X s' t ∧ KB c0 ce b (b + 1) s s' ∧ s' 81 36 = nI (b + 1) ∧ (∀ c, 104 ≤ c → c ≤ 106 → s' c = s c) ∧ RdM s' K P (mpT Prod.fst (bnd R (smT K v 6))) ∧ ∀ q, bnd R (smT K v 6) = .inl q → s' 107 b = nI c0 ∧ s' 108 b = nI (c0 + q.2.length) ∧ cdM s' c0 q.2 ∧ s' 81 42 = nI (c0 + q.2.length) ∧ s' 81 12 = 0) := by
  generalize hPo : (fun r h => r = none ∧ ∃ s', h = HA fm X s' t ∧ KB c0 ce b (b + 1) s s' ∧ s' 81 36 = nI (b + 1) ∧ (∀ c, 104 ≤ c → c ≤ 106 → s' c = s c) ∧ RdM s' K P (mpT Prod.fst (bnd R (smT K v 6))) ∧ ∀ q, bnd R (smT K v 6) = .inl q → s' 107 b = nI c0 ∧ s' 108 b = nI (c0 + q.2.length) ∧ cdM s' c0 q.2 ∧ s' 81 42 = nI (c0 + q.2.length) ∧ s' 81 12 = 0 : Option Value → ab_H → Prop) = Po
  have last : ∀ s1, KX c0 ce (ab_up s 107 b (s 81 42)) s1 → RdM s1 K P (mpT Prod.fst (bnd R (smT K v 6))) → (∀ q, bnd R (smT K v 6) = .inl q → s1 81 42 = nI (c0 + q.2.length) ∧ cdM s1 c0 q.2 ∧ s1 81 12 = 0) → ab_Z m_Mo_term (d + 4) (0, 0) Po 12 [some (.ref 81)] [] (HA fm X s1 t) := by
    intro s1 k1 hR1 hq1
    have h36 : s1 81 36 = nI b := (k1 81 36 (by omega) (by omega) (by omega)).trans ((congrFun (ab_up_o (by decide)) 36).trans hb)
    refine ab_go ok_Mo_term 6 rfl ?_
    show ab_Z m_Mo_term _ _ _ 18 [_] [_, _, _] _
    rw [h36]
    refine ab_is ok_Mo_term rfl rfl (k := b) (by first | rfl | (simp only [LL1, LL2, LL3, LL4, LL5, LL6, LL7, LL8, LL10, LL15, LL18, LL20, LL21, LL22, LL23, LL24, LL32, LL39, LL40, LL130, LL420, pk_mul, nI_add]; done) | (simp only [LL1, LL2, LL3, LL4, LL5, LL6, LL7, LL8, LL10, LL15, LL18, LL20, LL21, LL22, LL23, LL24, LL32, LL39, LL40, LL130, LL420, pk_mul, nI_add]; congr 1; omega)) (by omega) (Nat.le_of_ble_eq_true rfl) ?_
    show ab_Z m_Mo_term _ _ _ 19 [_] [] _
    refine ab_go ok_Mo_term 6 rfl ?_
    show ab_Z m_Mo_term _ _ _ 25 [_] [] _
    rw [show ab_up s1 108 b (s1 81 42) 81 36 = nI b from by rw [ab_up_o (by decide)]; exact h36, ← nI_succ]
    have fin : Po none (HA fm X (ab_up (ab_up s1 108 b (s1 81 42)) 81 36 (nI (b + 1))) t) := by
      rw [← hPo]
      refine ⟨rfl, _, rfl, KB.u (by omega) (KB.u (by omega) (KB.tr (KB.u (by omega) (KB.rf _ _ _ _ _)) k1.b)), ab_up_s .., fun c p q => ?_, hR1.of (by rw [ab_up_n (by decide), ab_up_o (by decide)]) (by rw [ab_up_n (by decide), ab_up_o (by decide)]) (by rw [ab_up_n (by decide), ab_up_o (by decide)]), fun q hq => ?_⟩
      · funext k
        rw [ab_up_o (by omega), ab_up_o (by omega), k1 c k (by omega) (by omega) (by omega), ab_up_o (by omega)]
      · obtain ⟨g1, g2, g3⟩ := hq1 q hq
        have hR' : ∃ n, R = .inl n := by
          cases R with
          | inl n => exact ⟨n, rfl⟩
          | inr e => cases hq
        obtain ⟨n, hn⟩ := hR'
        refine ⟨?_, ?_, ?_, ?_, ?_⟩
        · rw [ab_up_o (by decide), ab_up_o (by decide), k1 107 b (by omega) (by omega) (by omega), ab_up_s]
          exact (hc0 n hn).1
        · rw [ab_up_o (by decide), ab_up_s]
          exact g1
        · exact g2.of (fun k _ _ => ⟨by rw [ab_up_o (by decide), ab_up_o (by decide)], by rw [ab_up_o (by decide), ab_up_o (by decide)]⟩)
        · rw [ab_up_n (by decide), ab_up_o (by decide)]
          exact g1
        · rw [ab_up_n (by decide), ab_up_o (by decide)]
          exact g3
    exact ab_rV ok_Mo_term rfl (fin)
  refine ab_T_of (M := m_Mo_term) rfl rfl (Nat.le_of_ble_eq_true rfl) ?_
  show ab_Z m_Mo_term _ _ _ 0 [_] [] _
  refine ab_go ok_Mo_term 6 rfl ?_
  show ab_Z m_Mo_term _ _ _ 6 [_] [_, _, _] _
  rw [hb]
  refine ab_is ok_Mo_term rfl rfl (k := b) (by first | rfl | (simp only [LL1, LL2, LL3, LL4, LL5, LL6, LL7, LL8, LL10, LL15, LL18, LL20, LL21, LL22, LL23, LL24, LL32, LL39, LL40, LL130, LL420, pk_mul, nI_add]; done) | (simp only [LL1, LL2, LL3, LL4, LL5, LL6, LL7, LL8, LL10, LL15, LL18, LL20, LL21, LL22, LL23, LL24, LL32, LL39, LL40, LL130, LL420, pk_mul, nI_add]; congr 1; omega)) (by omega) (Nat.le_of_ble_eq_true rfl) ?_
  show ab_Z m_Mo_term _ _ _ 7 [_] [] _
  refine ab_go ok_Mo_term 2 rfl ?_
  show ab_Z m_Mo_term _ _ _ 9 [_] [_] _
  have hR1 : RdM (ab_up s 107 b (s 81 42)) K P R := hR.of (by rw [ab_up_o (by decide)]) (by rw [ab_up_o (by decide)]) (by rw [ab_up_o (by decide)])
  have k0 : KB c0 ce b (b + 1) s (ab_up s 107 b (s 81 42)) := KB.u (by omega) (KB.rf _ _ _ _ _)
  cases R with
  | inr e =>
    rw [hR1.1]
    refine ab_br ok_Mo_term rfl rfl ?_ ?_
    · intro h1
      show ab_Z m_Mo_term _ _ _ 10 [_] [] _
      exact absurd h1 (fl_1 hR1.2.2.1).1
    · intro h1
      show ab_Z m_Mo_term _ _ _ 12 [_] [] _
      exact last _ (KX.rf _ _ _) hR1 (fun q hq => by cases hq)
  | inl n =>
    rw [hR1.2.1]
    refine ab_go ok_Mo_term 1 rfl ?_
    show ab_Z m_Mo_term _ _ _ 10 [_] [] _
    refine ab_go ok_Mo_term 1 rfl ?_
    show ab_Z m_Mo_term _ _ _ 11 [_] [_] _
    refine ab_cl ok_Mo_term rfl [_] [] rfl ⟨_, _, rfl, rfl, Or.inl ⟨_, _, rfl, rfl⟩⟩ (Nat.le_of_ble_eq_true rfl) (t_Mo_expression d fm X _ t (k0.T hT) he hR1 (fun m hm => by rw [ab_up_o (by decide)]; exact hc0 m hm)) ?_
    rintro _ _ ⟨rfl, s1, rfl, k1, hR2, hq2⟩
    show ab_Z m_Mo_term _ _ _ 12 [_] [] _
    exact last s1 k1 hR2 hq2
end

