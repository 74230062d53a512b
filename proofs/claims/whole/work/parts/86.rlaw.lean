theorem KX.br {c0 ce : Nat} {s s' : Nat → Nat → Int32} (h : KX c0 ce s s') {j : Nat} (h1 : 102 ≤ j) (h2 : j ≤ 108) : s' j = s j := funext fun k => h j k (by omega) (by omega) (by omega)
theorem KX.f {c0 ce : Nat} {s s' : Nat → Nat → Int32} (h : KX c0 ce s s') {k : Nat} (h1 : k = 19 ∨ k = 36) : s' 81 k = s 81 k := h 81 k (by omega) (by omega) (by omega)
theorem KX.cd {c0 ce : Nat} {s s' : Nat → Nat → Int32} (h : KX c0 ce s s') (k : Nat) (hk : k < c0) : s' 109 k = s 109 k ∧ s' 110 k = s 110 k := ⟨h 109 k (by omega) (by omega) (by omega), h 110 k (by omega) (by omega) (by omega)⟩
theorem KJ.br {s s' : Nat → Nat → Int32} (h : KJ s s') (j : Nat) (h1 : j ≠ 81) : s' j = s j := h.n.row h1
section
variable (d : Nat) (fm : Value) (X : Nat × (Nat → Int32)) (s : Nat → Nat → Int32) (t : Nat → Nat → Int64)
variable {K P v : Nat → Nat} {nm : Nat → List Nat} {cl c0 ce b0 be : Nat} {Po : Option Value → ab_H → Prop}
def endL (K : Nat → Nat) (x : Rs (Nat × List (List Ins))) : Rs (Nat × List (List Ins)) := bnd x fun q => bnd (eatT K 59 q.1) fun t1 => .inl (t1, q.2)
def LwJ (s1 : Nat → Nat → Int32) (K P : Nat → Nat) (cl c0 ce b0 be n2 j n : Nat) (Pl : List (List Ins)) (c : Nat) : Prop := KB c0 ce b0 be s s1 ∧ RdM s1 K P (.inl n) ∧ s1 81 36 = nI (b0 + j) ∧ s1 81 42 = nI c ∧ c0 ≤ c ∧ c + 420 ≤ ce + n ∧ s1 81 12 = 0 ∧ RBp s1 cl c b0 j Pl ∧ n2 + 4 * j ≤ n
theorem l_main (hT : TM s t K P v nm) (he : ce ≤ 840) (hbe : be ≤ 260) (hb5 : b0 + 5 ≤ be) (hcl : cl ≤ c0) {sd k n2 : Nat} (hsd : s 81 19 = nI sd) (hs2 : sd < 2) (hk4 : k < 4) {F : Rs (Nat × List (List Ins))} (hF : ∀ e, F = .inr e → ∀ s2, KB c0 ce b0 be s s2 → RdM s2 K P (.inr e) → Po none (HA fm X s2 t)) (hG : ∀ q, F = .inl q → ∀ s2 j c, j ≤ 4 → KTl c0 ce b0 be (4 * sd + k) s s2 → RdM s2 K P (.inl q.1) → s2 81 36 = nI (b0 + (j + 1)) → s2 81 42 = nI c → c0 ≤ c → c + 420 ≤ ce + q.1 → s2 81 12 = 0 → s2 102 (4 * sd + k) = nI b0 → s2 103 (4 * sd + k) = nI (b0 + (j + 1)) → RBM s2 cl c b0 j q.2 → n2 + 4 * j + 2 ≤ q.1 → Po none (HA fm X s2 t)) : ∀ m j n Pl c s1, m + j = 4 → endL K (lawL K v m n Pl) = F → LwJ s s1 K P cl c0 ce b0 be n2 j n Pl c → ab_Z m_Mo_tellLaw (d + 5) (0, 0) Po 8 [some (.ref 81), some (.int (nI k)), some (.int (nI b0)), some (.int (nI j))] [] (HA fm X s1 t) := by
  have hTW := hT.2.1
  have last : ∀ j n Pl c s1, j ≤ 4 → endL K (bnd (smT K v 6 n) fun q => .inl (q.1, Pl ++ [q.2])) = F → LwJ s s1 K P cl c0 ce b0 be n2 j n Pl c → ab_Z m_Mo_tellLaw (d + 5) (0, 0) Po 67 [some (.ref 81), some (.int (nI k)), some (.int (nI b0)), some (.int (nI j))] [] (HA fm X s1 t) := by
    intro j n Pl c s1 hj hE hI
    obtain ⟨k1, hR, h36, h42, hc, hcn, h12, hB, hn2⟩ := hI
    have hn4 : n ≤ 400 := hR.2.2.1
    refine ab_go ok_Mo_tellLaw 5 rfl ?_
    show ab_Z m_Mo_tellLaw _ _ _ 72 [_, _, _, _] [_, _, _] _
    rw [h36]
    first | (refine ab_bs1 ok_Mo_tellLaw rfl rfl (k := (b0 + j)) (by first | rfl | (simp only [LL1, LL2, LL3, LL4, LL5, LL6, LL7, LL8, LL10, LL15, LL18, LL20, LL21, LL22, LL23, LL24, LL32, LL39, LL40, LL130, LL420, pk_mul, nI_add]; done) | (simp only [LL1, LL2, LL3, LL4, LL5, LL6, LL7, LL8, LL10, LL15, LL18, LL20, LL21, LL22, LL23, LL24, LL32, LL39, LL40, LL130, LL420, pk_mul, nI_add]; congr 1; omega)) (by omega) (Nat.le_of_ble_eq_true rfl) ?_) | (refine ab_bs2 ok_Mo_tellLaw rfl rfl (k := (b0 + j)) (by first | rfl | (simp only [LL1, LL2, LL3, LL4, LL5, LL6, LL7, LL8, LL10, LL15, LL18, LL20, LL21, LL22, LL23, LL24, LL32, LL39, LL40, LL130, LL420, pk_mul, nI_add]; done) | (simp only [LL1, LL2, LL3, LL4, LL5, LL6, LL7, LL8, LL10, LL15, LL18, LL20, LL21, LL22, LL23, LL24, LL32, LL39, LL40, LL130, LL420, pk_mul, nI_add]; congr 1; omega)) (by omega) (Nat.le_of_ble_eq_true rfl) ?_)
    show ab_Z m_Mo_tellLaw _ _ _ 73 [_, _, _, _] [] _
    refine ab_go ok_Mo_tellLaw 1 rfl ?_
    show ab_Z m_Mo_tellLaw _ _ _ 74 [_, _, _, _] [_] _
    have k2 := k1.u (x := 0 &&& 1) (c := 104) (j := b0 + j) (by omega)
    have hR2 := hR.of (s' := ab_up s1 104 (b0 + j) (0 &&& 1)) (by rw [ab_up_o (by decide)]) (by rw [ab_up_o (by decide)]) (by rw [ab_up_o (by decide)])
    refine ab_cl ok_Mo_tellLaw rfl [_] [] rfl ⟨_, _, rfl, rfl, Or.inl ⟨_, _, rfl, rfl⟩⟩ (Nat.le_of_ble_eq_true rfl) (t_Mo_term d fm X _ t (k2.T hT) (c0 := c) he hR2 (fun m hm => by cases hm; rw [ab_up_o (by decide)]; exact ⟨h42, hcn, h12⟩) (b := b0 + j) (by rw [ab_up_o (by decide)]; exact h36) (by omega)) ?_
    rintro _ _ ⟨rfl, s2, rfl, k3, h36', h104, hR3, hq3⟩
    show ab_Z m_Mo_tellLaw _ _ _ 75 [_, _, _, _] [] _
    have k13 := k2.tr (k3.mo (c0 := c0) (b0 := b0) (be := be) hc (by omega) (by omega))
    rw [bnd_l] at hR3 hq3
    cases hq : smT K v 6 n with
    | inr e =>
      rw [hq] at hR3 hE
      exact (l_bad d fm X s t hT he hbe (hF e hE.symm) _ _ _).2.2.2.2.2.2.2 s2 k13 hR3
    | inl q =>
      rw [hq] at hR3 hE
      obtain ⟨g1, g2, g3, g4, g5⟩ := hq3 q hq
      have hq1 := (smT_st K v 6 n hn4).1.1 q hq
      have hq2 := (smT_st K v 6 n hn4).2 q hq
      have hE' : (bnd (eatT K 59 q.1) fun t1 => .inl (t1, Pl ++ [q.2])) = F := hE
      refine ab_go ok_Mo_tellLaw 2 rfl ?_
      show ab_Z m_Mo_tellLaw _ _ _ 77 [_, _, _, _] [_, _] _
      refine ab_cl ok_Mo_tellLaw rfl [_, _] [] rfl ⟨_, _, rfl, rfl, Or.inl ⟨_, _, rfl, rfl⟩⟩ (Nat.le_of_ble_eq_true rfl) (t_Mo_must (d + 2) fm X s2 t (k13.T hT) hR3 (w := 59) (by decide) (by decide) _ rfl) ?_
      rintro _ _ ⟨rfl, s3, rfl, k4, hR4⟩
      show ab_Z m_Mo_tellLaw _ _ _ 78 [_, _, _, _] [] _
      have hR4' : RdM s3 K P (eatT K 59 q.1) := hR4
      refine ab_go ok_Mo_tellLaw 2 rfl ?_
      show ab_Z m_Mo_tellLaw _ _ _ 80 [_, _, _, _] [_] _
      cases hq5 : eatT K 59 q.1 with
      | inr e =>
        rw [hq5] at hR4' hE'
        rw [hR4'.1]
        refine ab_br ok_Mo_tellLaw rfl rfl ?_ ?_
        · intro h1
          show ab_Z m_Mo_tellLaw _ _ _ 82 [_, _, _, _] [] _
          exact absurd h1 (fl_1 hR4'.2.2.1).2.1
        · intro h1
          show ab_Z m_Mo_tellLaw _ _ _ 81 [_, _, _, _] [] _
          exact ab_rV ok_Mo_tellLaw rfl (hF e hE'.symm s3 (k13.tr k4.x.b) hR4')
      | inl n1 =>
        rw [hq5] at hR4' hE'
        have hn1 := eat_up hq5
        rw [hR4'.2.1]
        refine ab_go ok_Mo_tellLaw 1 rfl ?_
        show ab_Z m_Mo_tellLaw _ _ _ 82 [_, _, _, _] [] _
        have k14 := k13.tr (k4.x (c0 := c0) (ce := ce)).b
        have h19 : s3 81 19 = nI sd := (k14 81 19 (by omega) (by omega) (by omega) (by omega)).trans hsd
        have h36b : s3 81 36 = nI (b0 + j + 1) := (k4 81 36 (by omega)).trans h36'
        refine ab_go ok_Mo_tellLaw 9 rfl ?_
        show ab_Z m_Mo_tellLaw _ _ _ 91 [_, _, _, _] [_, _, _] _
        rw [h19]
        refine ab_is ok_Mo_tellLaw rfl rfl (k := (4 * sd + k)) (by first | rfl | (simp only [LL1, LL2, LL3, LL4, LL5, LL6, LL7, LL8, LL10, LL15, LL18, LL20, LL21, LL22, LL23, LL24, LL32, LL39, LL40, LL130, LL420, pk_mul, nI_add]; done) | (simp only [LL1, LL2, LL3, LL4, LL5, LL6, LL7, LL8, LL10, LL15, LL18, LL20, LL21, LL22, LL23, LL24, LL32, LL39, LL40, LL130, LL420, pk_mul, nI_add]; congr 1; omega)) (by omega) (Nat.le_of_ble_eq_true rfl) ?_
        show ab_Z m_Mo_tellLaw _ _ _ 92 [_, _, _, _] [] _
        refine ab_go ok_Mo_tellLaw 10 rfl ?_
        show ab_Z m_Mo_tellLaw _ _ _ 102 [_, _, _, _] [_, _, _] _
        rw [show ab_up s3 102 (4 * sd + k) (nI b0) 81 19 = nI sd from by rw [ab_up_o (by decide)]; exact h19, show ab_up s3 102 (4 * sd + k) (nI b0) 81 36 = nI (b0 + (j + 1)) from by rw [ab_up_o (by decide)]; exact h36b]
        refine ab_is ok_Mo_tellLaw rfl rfl (k := (4 * sd + k)) (by first | rfl | (simp only [LL1, LL2, LL3, LL4, LL5, LL6, LL7, LL8, LL10, LL15, LL18, LL20, LL21, LL22, LL23, LL24, LL32, LL39, LL40, LL130, LL420, pk_mul, nI_add]; done) | (simp only [LL1, LL2, LL3, LL4, LL5, LL6, LL7, LL8, LL10, LL15, LL18, LL20, LL21, LL22, LL23, LL24, LL32, LL39, LL40, LL130, LL420, pk_mul, nI_add]; congr 1; omega)) (by omega) (Nat.le_of_ble_eq_true rfl) ?_
        show ab_Z m_Mo_tellLaw _ _ _ 103 [_, _, _, _] [] _
        have kT : KTl c0 ce b0 be (4 * sd + k) s (ab_up (ab_up s3 102 (4 * sd + k) (nI b0)) 103 (4 * sd + k) (nI (b0 + (j + 1)))) := fun x y p1 p2 p3 p4 p5 => by
          have e := k14 x y p1 p2 p3 p4
          by_cases hx : x = 103
          · subst hx
            rw [ab_up_n (by omega), ab_up_o (by decide)]
            exact e
          · rw [ab_up_o hx]
            by_cases hx2 : x = 102
            · subst hx2
              rw [ab_up_n (by omega)]
              exact e
            · rw [ab_up_o hx2]
              exact e
        have e2 : ∀ x, x ≠ 102 → x ≠ 103 → ab_up (ab_up s3 102 (4 * sd + k) (nI b0)) 103 (4 * sd + k) (nI (b0 + (j + 1))) x = s3 x := fun x h1 h2 => by rw [ab_up_o h2, ab_up_o h1]
        have hkk : ∀ x y, x ≠ 81 → s3 x y = s2 x y := fun x y hx => congrFun (k4.n.row hx) y
        have hBM : RBM (ab_up (ab_up s3 102 (4 * sd + k) (nI b0)) 103 (4 * sd + k) (nI (b0 + (j + 1)))) cl (c + q.2.length) b0 j (Pl ++ [q.2]) := by
          refine RBM.of (s := s2) (ch := c + q.2.length) (fun y _ _ => ?_) (Nat.le_refl _) (fun x y p1 p2 _ _ => ?_) ⟨Pl, q.2, rfl, ?_, c, ?_, g1, g2, ?_⟩
          · rw [e2 109 (by decide) (by decide), e2 110 (by decide) (by decide)]
            exact ⟨hkk 109 y (by decide), hkk 110 y (by decide)⟩
          · rw [e2 x (by omega) (by omega)]
            exact hkk x y (by omega)
          · refine hB.of (fun y p1 p2 => ?_) (by omega) (fun x y p1 p2 p3 p4 => ?_)
            · rw [k3 109 y (by omega) (by omega) (by omega) (by omega), k3 110 y (by omega) (by omega) (by omega) (by omega), ab_up_o (by decide), ab_up_o (by decide)]
              exact ⟨rfl, rfl⟩
            · rw [k3 x y (by omega) (by omega) (by omega) (by omega)]
              by_cases hx : x = 104
              · subst hx
                rw [ab_up_n (by omega)]
              · rw [ab_up_o hx]
          · rw [h104 104 (by decide) (by decide), ab_up_s]
            decide
          · exact ⟨by omega, Nat.le_refl _, g3, smT_ok hTW.2.1 hTW.1 hq⟩
        exact ab_rV ok_Mo_tellLaw rfl (hG (n1, Pl ++ [q.2]) hE'.symm _ j (c + q.2.length) hj kT (hR4'.of (by rw [e2 81 (by decide) (by decide)]) (by rw [e2 81 (by decide) (by decide)]) (by rw [e2 81 (by decide) (by decide)])) (by rw [e2 81 (by decide) (by decide)]; exact h36b) (by rw [e2 81 (by decide) (by decide)]; exact (k4 81 42 (by omega)).trans g4) (by omega) (show c + q.2.length + 420 ≤ ce + n1 by omega) (by rw [e2 81 (by decide) (by decide)]; exact (k4 81 12 (by omega)).trans g5) (by rw [ab_up_o (by decide), ab_up_s]) (ab_up_s ..) hBM (show n2 + 4 * j + 2 ≤ n1 by omega))
  intro m
  induction m with
  | zero =>
    intro j n Pl c s1 hj hE hI
    have hI0 := hI
    obtain ⟨k1, hR, h36, h42, hc, hcn, h12, hB, hn2⟩ := hI
    have hj4 : j = 4 := by omega
    subst hj4
    refine ab_go ok_Mo_tellLaw 2 rfl ?_
    show ab_Z m_Mo_tellLaw _ _ _ 10 [_, _, _, _] [_] _
    rw [hR.2.1]
    refine ab_go ok_Mo_tellLaw 1 rfl ?_
    show ab_Z m_Mo_tellLaw _ _ _ 11 [_, _, _, _] [] _
    refine ab_go ok_Mo_tellLaw 2 rfl ?_
    show ab_Z m_Mo_tellLaw _ _ _ 13 [_, _, _, _] [_, _] _
    refine ab_cl ok_Mo_tellLaw rfl [_, _] [] rfl ⟨_, _, rfl, rfl, Or.inl ⟨_, _, rfl, rfl⟩⟩ (Nat.le_of_ble_eq_true rfl) (t_Mo_is (d + 4) fm X s1 t (k1.T hT) hR (w := 265) (by decide) _ rfl) ?_
    rintro _ _ ⟨rfl, rfl⟩
    show ab_Z m_Mo_tellLaw _ _ _ 14 [_, _, _, _] [_] _
    rw [lawL] at hE
    refine ab_br ok_Mo_tellLaw rfl rfl ?_ ?_
    · intro h1
      show ab_Z m_Mo_tellLaw _ _ _ 67 [_, _, _, _] [] _
      have h1' : ¬ K n = 265 := of_decide_eq_false (bB_0.mp h1)
      rw [if_neg h1'] at hE
      exact last 4 n Pl c s1 (by omega) hE hI0
    · intro h1
      show ab_Z m_Mo_tellLaw _ _ _ 15 [_, _, _, _] [] _
      have h1' : K n = 265 := of_decide_eq_true (bB_n0 h1)
      rw [if_pos h1'] at hE
      refine ab_go ok_Mo_tellLaw 2 rfl ?_
      show ab_Z m_Mo_tellLaw _ _ _ 17 [_, _, _, _] [_, _] _
      refine ab_go ok_Mo_tellLaw 1 rfl ?_
      show ab_Z m_Mo_tellLaw _ _ _ 18 [_, _, _, _] [] _
      refine ab_go ok_Mo_tellLaw 2 rfl ?_
      show ab_Z m_Mo_tellLaw _ _ _ 20 [_, _, _, _] [_, _] _
      refine ab_cl ok_Mo_tellLaw rfl [_, _] [] rfl ⟨_, _, rfl, rfl, Or.inl ⟨_, _, rfl, rfl⟩⟩ (Nat.le_of_ble_eq_true rfl) (t_Mo_fail (d + 4) fm X s1 t (k1.T hT) hR (c := 2) (by omega) _ rfl) ?_
      rintro _ _ ⟨rfl, s2, rfl, k2, hR2, -⟩
      show ab_Z m_Mo_tellLaw _ _ _ 21 [_, _, _, _] [] _
      rw [bnd_l] at hR2
      refine ab_go ok_Mo_tellLaw 2 rfl ?_
      show ab_Z m_Mo_tellLaw _ _ _ 23 [_, _, _, _] [_] _
      rw [hR2.1]
      refine ab_go ok_Mo_tellLaw 1 rfl ?_
      show ab_Z m_Mo_tellLaw _ _ _ 24 [_, _, _, _] [] _
      exact ab_rV ok_Mo_tellLaw rfl (hF _ hE.symm s2 (k1.tr k2.x.b) hR2)
  | succ m ih =>
    intro j n Pl c s1 hj hE hI
    have hI0 := hI
    obtain ⟨k1, hR, h36, h42, hc, hcn, h12, hB, hn2⟩ := hI
    have hT1 := k1.T hT
    have hn4 : n ≤ 400 := hR.2.2.1
    refine ab_go ok_Mo_tellLaw 2 rfl ?_
    show ab_Z m_Mo_tellLaw _ _ _ 10 [_, _, _, _] [_] _
    rw [hR.2.1]
    refine ab_go ok_Mo_tellLaw 1 rfl ?_
    show ab_Z m_Mo_tellLaw _ _ _ 11 [_, _, _, _] [] _
    refine ab_go ok_Mo_tellLaw 2 rfl ?_
    show ab_Z m_Mo_tellLaw _ _ _ 13 [_, _, _, _] [_, _] _
    refine ab_cl ok_Mo_tellLaw rfl [_, _] [] rfl ⟨_, _, rfl, rfl, Or.inl ⟨_, _, rfl, rfl⟩⟩ (Nat.le_of_ble_eq_true rfl) (t_Mo_is (d + 4) fm X s1 t hT1 hR (w := 265) (by decide) _ rfl) ?_
    rintro _ _ ⟨rfl, rfl⟩
    show ab_Z m_Mo_tellLaw _ _ _ 14 [_, _, _, _] [_] _
    rw [lawL] at hE
    refine ab_br ok_Mo_tellLaw rfl rfl ?_ ?_
    · intro h1
      show ab_Z m_Mo_tellLaw _ _ _ 67 [_, _, _, _] [] _
      have h1' : ¬ K n = 265 := of_decide_eq_false (bB_0.mp h1)
      rw [if_neg h1'] at hE
      exact last j n Pl c s1 (by omega) hE hI0
    · intro h1
      show ab_Z m_Mo_tellLaw _ _ _ 15 [_, _, _, _] [] _
      have h1' : K n = 265 := of_decide_eq_true (bB_n0 h1)
      rw [if_pos h1'] at hE
      refine ab_go ok_Mo_tellLaw 2 rfl ?_
      show ab_Z m_Mo_tellLaw _ _ _ 17 [_, _, _, _] [_, _] _
      refine ab_br ok_Mo_tellLaw rfl rfl ?_ ?_
      · intro h2
        show ab_Z m_Mo_tellLaw _ _ _ 18 [_, _, _, _] [] _
        exact absurd ((nI_eq (show j < 2 ^ 31 by omega) (show 4 < 2 ^ 31 by decide)).mp h2) (by omega)
      · intro h2
        show ab_Z m_Mo_tellLaw _ _ _ 21 [_, _, _, _] [] _
        refine ab_go ok_Mo_tellLaw 2 rfl ?_
        show ab_Z m_Mo_tellLaw _ _ _ 23 [_, _, _, _] [_] _
        rw [hR.2.1]
        refine ab_go ok_Mo_tellLaw 1 rfl ?_
        show ab_Z m_Mo_tellLaw _ _ _ 25 [_, _, _, _] [] _
        refine ab_go ok_Mo_tellLaw 2 rfl ?_
        show ab_Z m_Mo_tellLaw _ _ _ 27 [_, _, _, _] [_] _
        rw [← nI_succ]
        refine ab_cl ok_Mo_tellLaw rfl [_] [] rfl ⟨_, _, rfl, rfl, Or.inl ⟨_, _, rfl, rfl⟩⟩ (Nat.le_of_ble_eq_true rfl) (t_Mo_goesOn (d + 3) fm X s1 t hT1 hR (fun y hy => by cases hy; omega)) ?_
        rintro _ _ ⟨rfl, s2, rfl, k2, hR2⟩
        show ab_Z m_Mo_tellLaw _ _ _ 28 [_, _, _, _] [] _
        have hR2' : RdM s2 K P (goT n) := hR2
        have k12 := k1.tr (k2.x (c0 := c0) (ce := ce)).b
        have h36a : s2 81 36 = nI (b0 + j) := (k2 81 36 (by omega)).trans h36
        cases hg : goT n with
        | inr e =>
          rw [hg] at hR2' hE
          exact (l_bad d fm X s t hT he hbe (hF e hE.symm) _ _ _).1 s2 (b0 + j) k12 hR2' h36a (by omega) (by omega)
        | inl n1 =>
          rw [hg] at hR2' hE
          rw [bnd_l] at hE
          obtain ⟨hn1, hn1'⟩ := go_1 hg
          have hT2 := k12.T hT
          refine ab_go ok_Mo_tellLaw 5 rfl ?_
          show ab_Z m_Mo_tellLaw _ _ _ 33 [_, _, _, _] [_, _, _] _
          rw [h36a]
          first | (refine ab_bs1 ok_Mo_tellLaw rfl rfl (k := (b0 + j)) (by first | rfl | (simp only [LL1, LL2, LL3, LL4, LL5, LL6, LL7, LL8, LL10, LL15, LL18, LL20, LL21, LL22, LL23, LL24, LL32, LL39, LL40, LL130, LL420, pk_mul, nI_add]; done) | (simp only [LL1, LL2, LL3, LL4, LL5, LL6, LL7, LL8, LL10, LL15, LL18, LL20, LL21, LL22, LL23, LL24, LL32, LL39, LL40, LL130, LL420, pk_mul, nI_add]; congr 1; omega)) (by omega) (Nat.le_of_ble_eq_true rfl) ?_) | (refine ab_bs2 ok_Mo_tellLaw rfl rfl (k := (b0 + j)) (by first | rfl | (simp only [LL1, LL2, LL3, LL4, LL5, LL6, LL7, LL8, LL10, LL15, LL18, LL20, LL21, LL22, LL23, LL24, LL32, LL39, LL40, LL130, LL420, pk_mul, nI_add]; done) | (simp only [LL1, LL2, LL3, LL4, LL5, LL6, LL7, LL8, LL10, LL15, LL18, LL20, LL21, LL22, LL23, LL24, LL32, LL39, LL40, LL130, LL420, pk_mul, nI_add]; congr 1; omega)) (by omega) (Nat.le_of_ble_eq_true rfl) ?_)
          show ab_Z m_Mo_tellLaw _ _ _ 34 [_, _, _, _] [] _
          refine ab_go ok_Mo_tellLaw 6 rfl ?_
          show ab_Z m_Mo_tellLaw _ _ _ 40 [_, _, _, _] [_, _, _] _
          have h42a : s2 81 42 = nI c := (k2 81 42 (by omega)).trans h42
          rw [show ab_up s2 104 (b0 + j) (1 &&& 1) 81 36 = nI (b0 + j) from by rw [ab_up_o (by decide)]; exact h36a, show ab_up s2 104 (b0 + j) (1 &&& 1) 81 42 = nI c from by rw [ab_up_o (by decide)]; exact h42a]
          refine ab_is ok_Mo_tellLaw rfl rfl (k := (b0 + j)) (by first | rfl | (simp only [LL1, LL2, LL3, LL4, LL5, LL6, LL7, LL8, LL10, LL15, LL18, LL20, LL21, LL22, LL23, LL24, LL32, LL39, LL40, LL130, LL420, pk_mul, nI_add]; done) | (simp only [LL1, LL2, LL3, LL4, LL5, LL6, LL7, LL8, LL10, LL15, LL18, LL20, LL21, LL22, LL23, LL24, LL32, LL39, LL40, LL130, LL420, pk_mul, nI_add]; congr 1; omega)) (by omega) (Nat.le_of_ble_eq_true rfl) ?_
          show ab_Z m_Mo_tellLaw _ _ _ 41 [_, _, _, _] [] _
          refine ab_go ok_Mo_tellLaw 1 rfl ?_
          show ab_Z m_Mo_tellLaw _ _ _ 42 [_, _, _, _] [_] _
          obtain ⟨s3, hs3⟩ : ∃ s3, s3 = ab_up (ab_up s2 104 (b0 + j) (1 &&& 1)) 105 (b0 + j) (nI c) := ⟨_, rfl⟩
          rw [← hs3]
          have e3 : ∀ x, x ≠ 104 → x ≠ 105 → s3 x = s2 x := fun x p q => by rw [hs3, ab_up_o q, ab_up_o p]
          have e3n : ∀ x y, y ≠ b0 + j → s3 x y = s2 x y := fun x y p => by
            rw [hs3]
            by_cases hx : x = 105
            · subst hx
              rw [ab_up_n p, ab_up_o (by decide)]
            · rw [ab_up_o hx]
              by_cases hx4 : x = 104
              · subst hx4
                rw [ab_up_n p]
              · rw [ab_up_o hx4]
          have e34 : s3 104 (b0 + j) = 1 := by rw [hs3, ab_up_o (by decide), ab_up_s]; decide
          have e35 : s3 105 (b0 + j) = nI c := by rw [hs3, ab_up_s]
          have k13 : KB c0 ce b0 be s s3 := by rw [hs3]; exact KB.u (by omega) (KB.u (by omega) k12)
          have hR3 : RdM s3 K P (.inl n1) := hR2'.of (by rw [e3 81 (by decide) (by decide)]) (by rw [e3 81 (by decide) (by decide)]) (by rw [e3 81 (by decide) (by decide)])
          refine ab_cl ok_Mo_tellLaw rfl [_] [] rfl ⟨_, _, rfl, rfl, Or.inl ⟨_, _, rfl, rfl⟩⟩ (Nat.le_of_ble_eq_true rfl) (t_Mo_expression (d + 1) fm X s3 t (k13.T hT) (c0 := c) he hR3 (fun y hy => by cases hy; rw [e3 81 (by decide) (by decide)]; exact ⟨h42a, by omega, (k2 81 12 (by omega)).trans h12⟩)) ?_
          rintro _ _ ⟨rfl, s4, rfl, k4, hR4, hq4⟩
          show ab_Z m_Mo_tellLaw _ _ _ 43 [_, _, _, _] [] _
          rw [bnd_l] at hR4 hq4
          have k14 := k13.tr (KB.mo hc (Nat.le_refl b0) (Nat.le_refl be) k4.b)
          have h36b : s4 81 36 = nI (b0 + j) := (k4.f (by omega)).trans (by rw [e3 81 (by decide) (by decide)]; exact h36a)
          cases hq : smT K v 6 n1 with
          | inr e =>
            rw [hq] at hR4 hE
            exact (l_bad d fm X s t hT he hbe (hF e hE.symm) _ _ _).2.1 s4 (b0 + j) k14 hR4 h36b (by omega) (by omega)
          | inl q =>
            rw [hq] at hR4 hE
            obtain ⟨x1, x2, x3⟩ := hq4 q hq
            have hq1 := (smT_st K v 6 n1 (by omega)).1.1 q hq
            have hq2 := (smT_st K v 6 n1 (by omega)).2 q hq
            rw [bnd_l] at hE
            refine ab_go ok_Mo_tellLaw 2 rfl ?_
            show ab_Z m_Mo_tellLaw _ _ _ 45 [_, _, _, _] [_, _] _
            refine ab_cl ok_Mo_tellLaw rfl [_, _] [] rfl ⟨_, _, rfl, rfl, Or.inl ⟨_, _, rfl, rfl⟩⟩ (Nat.le_of_ble_eq_true rfl) (t_Mo_must (d + 2) fm X s4 t (k14.T hT) hR4 (w := 60) (by decide) (by decide) _ rfl) ?_
            rintro _ _ ⟨rfl, s5, rfl, k5, hR5⟩
            show ab_Z m_Mo_tellLaw _ _ _ 46 [_, _, _, _] [] _
            have hR5' : RdM s5 K P (eatT K 60 q.1) := hR5
            have k15 := k14.tr (k5.x (c0 := c0) (ce := ce)).b
            have h36c : s5 81 36 = nI (b0 + j) := (k5 81 36 (by omega)).trans h36b
            cases hq5 : eatT K 60 q.1 with
            | inr e =>
              rw [hq5] at hR5' hE
              exact (l_bad d fm X s t hT he hbe (hF e hE.symm) _ _ _).2.2.1 s5 (b0 + j) k15 hR5' h36c (by omega) (by omega)
            | inl n3 =>
              rw [hq5] at hR5' hE
              rw [bnd_l] at hE
              have hn3 := eat_up hq5
              have hn34 : n3 ≤ 400 := hR5'.2.2.1
              have h42c : s5 81 42 = nI (c + q.2.length) := (k5 81 42 (by omega)).trans x1
              refine ab_go ok_Mo_tellLaw 6 rfl ?_
              show ab_Z m_Mo_tellLaw _ _ _ 52 [_, _, _, _] [_, _, _] _
              rw [h36c, h42c]
              refine ab_is ok_Mo_tellLaw rfl rfl (k := (b0 + j)) (by first | rfl | (simp only [LL1, LL2, LL3, LL4, LL5, LL6, LL7, LL8, LL10, LL15, LL18, LL20, LL21, LL22, LL23, LL24, LL32, LL39, LL40, LL130, LL420, pk_mul, nI_add]; done) | (simp only [LL1, LL2, LL3, LL4, LL5, LL6, LL7, LL8, LL10, LL15, LL18, LL20, LL21, LL22, LL23, LL24, LL32, LL39, LL40, LL130, LL420, pk_mul, nI_add]; congr 1; omega)) (by omega) (Nat.le_of_ble_eq_true rfl) ?_
              show ab_Z m_Mo_tellLaw _ _ _ 53 [_, _, _, _] [] _
              refine ab_go ok_Mo_tellLaw 2 rfl ?_
              show ab_Z m_Mo_tellLaw _ _ _ 55 [_, _, _, _] [_] _
              obtain ⟨s6, hs6⟩ : ∃ s6, s6 = ab_up s5 106 (b0 + j) (nI (c + q.2.length)) := ⟨_, rfl⟩
              rw [← hs6]
              have e6 : ∀ x, x ≠ 106 → s6 x = s5 x := fun x p => by rw [hs6, ab_up_o p]
              have e6n : ∀ x y, y ≠ b0 + j → s6 x y = s5 x y := fun x y p => by
                rw [hs6]
                by_cases hx : x = 106
                · subst hx
                  rw [ab_up_n p]
                · rw [ab_up_o hx]
              have e66 : s6 106 (b0 + j) = nI (c + q.2.length) := by rw [hs6, ab_up_s]
              have k16 : KB c0 ce b0 be s s6 := by rw [hs6]; exact KB.u (by omega) k15
              have hR6 : RdM s6 K P (.inl n3) := hR5'.of (by rw [e6 81 (by decide)]) (by rw [e6 81 (by decide)]) (by rw [e6 81 (by decide)])
              rw [hR6.2.1]
              refine ab_go ok_Mo_tellLaw 1 rfl ?_
              show ab_Z m_Mo_tellLaw _ _ _ 56 [_, _, _, _] [] _
              refine ab_go ok_Mo_tellLaw 1 rfl ?_
              show ab_Z m_Mo_tellLaw _ _ _ 57 [_, _, _, _] [_] _
              refine ab_cl ok_Mo_tellLaw rfl [_] [] rfl ⟨_, _, rfl, rfl, Or.inl ⟨_, _, rfl, rfl⟩⟩ (Nat.le_of_ble_eq_true rfl) (t_Mo_expression (d + 1) fm X s6 t (k16.T hT) (c0 := c + q.2.length) he hR6 (fun y hy => by cases hy; rw [e6 81 (by decide)]; exact ⟨h42c, by omega, (k5 81 12 (by omega)).trans x3⟩)) ?_
              rintro _ _ ⟨rfl, s7, rfl, k7, hR7, hq7⟩
              show ab_Z m_Mo_tellLaw _ _ _ 58 [_, _, _, _] [] _
              rw [bnd_l] at hR7 hq7
              have k17 := k16.tr (KB.mo (show c0 ≤ c + q.2.length by omega) (Nat.le_refl b0) (Nat.le_refl be) k7.b)
              have h36d : s7 81 36 = nI (b0 + j) := (k7.f (by omega)).trans (by rw [e6 81 (by decide)]; exact h36c)
              cases hr : smT K v 6 n3 with
              | inr e =>
                rw [hr] at hR7 hE
                exact (l_bad d fm X s t hT he hbe (hF e hE.symm) _ _ _).2.2.2.1 s7 (b0 + j) k17 hR7 h36d (by omega) (by omega)
              | inl r =>
                rw [hr] at hR7 hE
                obtain ⟨y1, y2, y3⟩ := hq7 r hr
                have hr1 := (smT_st K v 6 n3 hn34).1.1 r hr
                have hr2 := (smT_st K v 6 n3 hn34).2 r hr
                rw [bnd_l] at hE
                refine ab_go ok_Mo_tellLaw 2 rfl ?_
                show ab_Z m_Mo_tellLaw _ _ _ 60 [_, _, _, _] [_, _] _
                refine ab_cl ok_Mo_tellLaw rfl [_, _] [] rfl ⟨_, _, rfl, rfl, Or.inl ⟨_, _, rfl, rfl⟩⟩ (Nat.le_of_ble_eq_true rfl) (t_Mo_must (d + 2) fm X s7 t (k17.T hT) hR7 (w := 266) (by decide) (by decide) _ rfl) ?_
                rintro _ _ ⟨rfl, s8, rfl, k8, hR8⟩
                show ab_Z m_Mo_tellLaw _ _ _ 61 [_, _, _, _] [] _
                have hR8' : RdM s8 K P (eatT K 266 r.1) := hR8
                have k18 := k17.tr (k8.x (c0 := c0) (ce := ce)).b
                have h36e : s8 81 36 = nI (b0 + j) := (k8 81 36 (by omega)).trans h36d
                cases hr5 : eatT K 266 r.1 with
                | inr e =>
                  rw [hr5] at hR8' hE
                  exact (l_bad d fm X s t hT he hbe (hF e hE.symm) _ _ _).2.2.2.2.1 s8 (b0 + j) k18 hR8' h36e (by omega) (by omega)
                | inl n4 =>
                  rw [hr5] at hR8' hE
                  rw [bnd_l] at hE
                  have hn5 := eat_up hr5
                  have hn54 : n4 ≤ 400 := hR8'.2.2.1
                  have h42e : s8 81 42 = nI (c + q.2.length + r.2.length) := (k8 81 42 (by omega)).trans y1
                  refine ab_go ok_Mo_tellLaw 1 rfl ?_
                  show ab_Z m_Mo_tellLaw _ _ _ 62 [_, _, _, _] [_] _
                  refine ab_cl ok_Mo_tellLaw rfl [_] [] rfl ⟨_, _, rfl, rfl, Or.inl ⟨_, _, rfl, rfl⟩⟩ (Nat.le_of_ble_eq_true rfl) (t_Mo_term d fm X s8 t (k18.T hT) (c0 := c + q.2.length + r.2.length) he hR8' (fun y hy => by cases hy; exact ⟨h42e, by omega, (k8 81 12 (by omega)).trans y3⟩) (b := b0 + j) h36e (by omega)) ?_
                  rintro _ _ ⟨rfl, s9, rfl, k9, h36f, h104, hR9, hq9⟩
                  show ab_Z m_Mo_tellLaw _ _ _ 63 [_, _, _, _] [] _
                  rw [bnd_l] at hR9 hq9
                  have k19 := k18.tr (KB.mo (show c0 ≤ c + q.2.length + r.2.length by omega) (show b0 ≤ b0 + j by omega) (show b0 + j + 1 ≤ be by omega) k9)
                  cases hu : smT K v 6 n4 with
                  | inr e =>
                    rw [hu] at hR9 hE
                    exact (l_bad d fm X s t hT he hbe (hF e hE.symm) _ _ _).2.2.2.2.2.1 s9 (b0 + j + 1) k19 hR9 h36f (by omega) (by omega)
                  | inl u =>
                    rw [hu] at hR9 hE
                    obtain ⟨z1, z2, z3, z4, z5⟩ := hq9 u hu
                    have hu1 := (smT_st K v 6 n4 hn54).1.1 u hu
                    have hu2 := (smT_st K v 6 n4 hn54).2 u hu
                    rw [bnd_l] at hE
                    refine ab_go ok_Mo_tellLaw 2 rfl ?_
                    show ab_Z m_Mo_tellLaw _ _ _ 65 [_, _, _, _] [_, _] _
                    refine ab_cl ok_Mo_tellLaw rfl [_, _] [] rfl ⟨_, _, rfl, rfl, Or.inl ⟨_, _, rfl, rfl⟩⟩ (Nat.le_of_ble_eq_true rfl) (t_Mo_must (d + 2) fm X s9 t (k19.T hT) hR9 (w := 267) (by decide) (by decide) _ rfl) ?_
                    rintro _ _ ⟨rfl, sX, rfl, kX, hRX⟩
                    show ab_Z m_Mo_tellLaw _ _ _ 66 [_, _, _, _] [] _
                    have hRX' : RdM sX K P (eatT K 267 u.1) := hRX
                    have k1X := k19.tr (kX.x (c0 := c0) (ce := ce)).b
                    have h36g : sX 81 36 = nI (b0 + j + 1) := (kX 81 36 (by omega)).trans h36f
                    refine ab_go ok_Mo_tellLaw 1 rfl ?_
                    show ab_Z m_Mo_tellLaw _ _ _ 8 [_, _, _, _] [] _
                    cases hu5 : eatT K 267 u.1 with
                    | inr e =>
                      rw [hu5] at hRX' hE
                      exact (l_bad d fm X s t hT he hbe (hF e hE.symm) _ _ _).2.2.2.2.2.2.1 sX (b0 + j + 1) k1X hRX' h36g (by omega) (by omega)
                    | inl n5 =>
                      rw [hu5] at hRX' hE
                      rw [bnd_l] at hE
                      have hn6 := eat_up hu5
                      refine ih (j + 1) n5 (Pl ++ [q.2, r.2, u.2]) (c + q.2.length + r.2.length + u.2.length) sX (by omega) hE ⟨k1X, hRX', h36g, (kX 81 42 (by omega)).trans z4, by omega, by omega, (kX 81 12 (by omega)).trans z5, ⟨Pl, q.2, r.2, u.2, rfl, ?_, c, ?_, ?_, ?_, ?_, ?_, ?_, ?_, ?_⟩, by omega⟩
                      · refine hB.of (fun y p1 p2 => ?_) (by omega) (fun x y p1 p2 p3 p4 => ?_)
                        · rw [kX.br 109 (by decide), kX.br 110 (by decide), k9 109 y (by omega) (by omega) (by omega) (by omega), k9 110 y (by omega) (by omega) (by omega) (by omega), k8.br 109 (by decide), k8.br 110 (by decide), (k7.cd y (by omega)).1, (k7.cd y (by omega)).2, e6 109 (by decide), e6 110 (by decide), k5.br 109 (by decide), k5.br 110 (by decide), (k4.cd y (by omega)).1, (k4.cd y (by omega)).2, e3 109 (by decide) (by decide), e3 110 (by decide) (by decide), k2.br 109 (by decide), k2.br 110 (by decide)]
                          exact ⟨rfl, rfl⟩
                        · rw [kX.br x (by omega), k9 x y (by omega) (by omega) (by omega) (by omega), k8.br x (by omega), k7.br (by omega) p2, e6n x y (by omega), k5.br x (by omega), k4.br (by omega) p2, e3n x y (by omega), k2.br x (by omega)]
                      · rw [kX.br 104 (by decide), h104 104 (by decide) (by decide), k8.br 104 (by decide), k7.br (by decide) (by decide), e6 104 (by decide), k5.br 104 (by decide), k4.br (by decide) (by decide)]
                        exact e34
                      · rw [kX.br 105 (by decide), h104 105 (by decide) (by decide), k8.br 105 (by decide), k7.br (by decide) (by decide), e6 105 (by decide), k5.br 105 (by decide), k4.br (by decide) (by decide)]
                        exact e35
                      · rw [kX.br 106 (by decide), h104 106 (by decide) (by decide), k8.br 106 (by decide), k7.br (by decide) (by decide)]
                        exact e66
                      · rw [kX.br 107 (by decide)]
                        exact z1
                      · rw [kX.br 108 (by decide)]
                        exact z2
                      · refine ⟨by omega, by omega, x2.of (fun y p1 p2 => ?_), smT_ok hTW.2.1 hTW.1 hq⟩
                        rw [kX.br 109 (by decide), kX.br 110 (by decide), k9 109 y (by omega) (by omega) (by omega) (by omega), k9 110 y (by omega) (by omega) (by omega) (by omega), k8.br 109 (by decide), k8.br 110 (by decide), (k7.cd y (by omega)).1, (k7.cd y (by omega)).2, e6 109 (by decide), e6 110 (by decide), k5.br 109 (by decide), k5.br 110 (by decide)]
                        exact ⟨rfl, rfl⟩
                      · refine ⟨by omega, by omega, y2.of (fun y p1 p2 => ?_), smT_ok hTW.2.1 hTW.1 hr⟩
                        rw [kX.br 109 (by decide), kX.br 110 (by decide), k9 109 y (by omega) (by omega) (by omega) (by omega), k9 110 y (by omega) (by omega) (by omega) (by omega), k8.br 109 (by decide), k8.br 110 (by decide)]
                        exact ⟨rfl, rfl⟩
                      · refine ⟨by omega, by omega, z3.of (fun y p1 p2 => ?_), smT_ok hTW.2.1 hTW.1 hu⟩
                        rw [kX.br 109 (by decide), kX.br 110 (by decide)]
                        exact ⟨rfl, rfl⟩
end

