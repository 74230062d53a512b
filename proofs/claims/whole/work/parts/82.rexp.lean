/-! the reference reads an expression -/
def XA (c0 ce : Nat) (s s1 : Nat → Nat → Int32) (K P : Nat → Nat) (n : Nat) (w : List Nat) (C : List Ins) (o : Nat) : Prop := KX c0 ce s s1 ∧ RdM s1 K P (.inl n) ∧ XP s1 c0 C w o ∧ c0 + C.length + w.length + 420 ≤ ce + n ∧ w.length ≤ 3 * o + 2 ∧ o ≤ 6
section
variable (d : Nat) (fm : Value) (X : Nat × (Nat → Int32)) (s : Nat → Nat → Int32) (t : Nat → Nat → Int64)
variable (K P v : Nat → Nat) (nm : Nat → List Nat) (c0 ce : Nat) (Po : Option Value → ab_H → Prop)
abbrev ZE (i : Nat) (s1 : Nat → Nat → Int32) : Prop := ab_Z m_Mo_expression (d + 3) (0, 0) Po i [some (.ref 81), some (.int (nI 0)), none] [] (HA fm X s1 t)
abbrev FE (e : Nat × Nat) : Prop := ∀ s2, KX c0 ce s s2 → RdM s2 K P (.inr e) → Po none (HA fm X s2 t)
abbrev DE (n : Nat) (C : List Ins) : Prop := ∀ s2, KX c0 ce s s2 → RdM s2 K P (.inl n) → XP s2 c0 C [] 0 → Po none (HA fm X s2 t)
abbrev goA (n : Nat) (w : List Nat) (C : List Ins) (o : Nat) : Prop := ∀ s1, XA c0 ce s s1 K P n w C o → ZE d fm X t Po 13 s1
abbrev goB (n : Nat) (w : List Nat) (C : List Ins) (o : Nat) : Prop := ∀ s1, XA c0 ce s s1 K P n w C o → ZE d fm X t Po 51 s1
variable {K P v nm c0 ce Po}
theorem x_badA (hT : TM s t K P v nm) (he : ce ≤ 840) {s1 : Nat → Nat → Int32} {e : Nat × Nat} (k1 : KX c0 ce s s1) (hR : RdM s1 K P (.inr e)) (hF : FE fm X s t K P c0 ce Po e) : ZE d fm X t Po 13 s1 := by
  have hT1 := k1.T hT
  refine ab_go ok_Mo_expression 2 rfl ?_
  show ab_Z m_Mo_expression _ _ _ 15 [_, _, _] [_, _] _
  refine ab_cl ok_Mo_expression rfl [_, _] [] rfl ⟨_, _, rfl, rfl, Or.inl ⟨_, _, rfl, rfl⟩⟩ (Nat.le_of_ble_eq_true rfl) (t_Mo_is (d + 2) fm X s1 t hT1 hR (w := 40) (by decide) _ rfl) ?_
  rintro _ _ ⟨rfl, rfl⟩
  show ab_Z m_Mo_expression _ _ _ 16 [_, _, _] [_] _
  refine ab_go ok_Mo_expression 1 rfl ?_
  show ab_Z m_Mo_expression _ _ _ 45 [_, _, _] [] _
  refine ab_go ok_Mo_expression 1 rfl ?_
  show ab_Z m_Mo_expression _ _ _ 46 [_, _, _] [_] _
  refine ab_cl ok_Mo_expression rfl [_] [] rfl ⟨_, _, rfl, rfl, Or.inl ⟨_, _, rfl, rfl⟩⟩ (Nat.le_of_ble_eq_true rfl) (t_Mo_unit d fm X s1 t hT1 hR (c0 := c0) (ce := ce) (o := 0) (C := []) (w := []) he (fun n hn => by cases hn)) ?_
  rintro _ _ ⟨rfl, s2, rfl, k2, hR2, -⟩
  show ab_Z m_Mo_expression _ _ _ 47 [_, _, _] [] _
  refine ab_go ok_Mo_expression 2 rfl ?_
  show ab_Z m_Mo_expression _ _ _ 49 [_, _, _] [_] _
  rw [hR2.1]
  refine ab_br ok_Mo_expression rfl rfl ?_ ?_
  · intro h1
    show ab_Z m_Mo_expression _ _ _ 51 [_, _, _] [] _
    exact absurd h1 (fl_1 hR2.2.2.1).2.1
  · intro h1
    show ab_Z m_Mo_expression _ _ _ 50 [_, _, _] [] _
    exact ab_rV ok_Mo_expression rfl (hF s2 (k1.tr k2) hR2)
theorem x_badB (hT : TM s t K P v nm) (he : ce ≤ 840) {s1 : Nat → Nat → Int32} {e : Nat × Nat} {w : List Nat} {C : List Ins} {o : Nat} (k1 : KX c0 ce s s1) (hR : RdM s1 K P (.inr e)) (hX : XP s1 c0 C w o) (hb : c0 + C.length + w.length ≤ ce) (hw : w.length ≤ 60) (hF : FE fm X s t K P c0 ce Po e) : ZE d fm X t Po 51 s1 := by
  have hT1 := k1.T hT
  have last : ab_Z m_Mo_expression (d + 3) (0, 0) Po 106 [some (.ref 81), some (.int (nI 0)), some (.int 0)] [] (HA fm X s1 t) := by
    refine ab_go ok_Mo_expression 2 rfl ?_
    show ab_Z m_Mo_expression _ _ _ 108 [_, _, _] [_, _] _
    refine ab_cl ok_Mo_expression rfl [_, _] [] rfl ⟨_, _, rfl, rfl, Or.inl ⟨_, _, rfl, rfl⟩⟩ (Nat.le_of_ble_eq_true rfl) (t_Mo_comesOut (d + 1) fm X s1 t hX hb he hw false _ rfl) ?_
    rintro _ _ ⟨rfl, s2, rfl, k2, k3, -⟩
    show ab_Z m_Mo_expression _ _ _ 109 [_, _, _] [] _
    exact ab_rV ok_Mo_expression rfl (hF s2 (k1.tr k2) (hR.of (k3 11 (by decide) (by decide)) (k3 13 (by decide) (by decide)) (k3 14 (by decide) (by decide))))
  refine ab_go ok_Mo_expression 2 rfl ?_
  show ab_Z m_Mo_expression _ _ _ 53 [_, _, _] [_, _] _
  refine ab_cl ok_Mo_expression rfl [_, _] [] rfl ⟨_, _, rfl, rfl, Or.inl ⟨_, _, rfl, rfl⟩⟩ (Nat.le_of_ble_eq_true rfl) (t_Mo_is (d + 2) fm X s1 t hT1 hR (w := 41) (by decide) _ rfl) ?_
  rintro _ _ ⟨rfl, rfl⟩
  show ab_Z m_Mo_expression _ _ _ 54 [_, _, _] [_] _
  refine ab_go ok_Mo_expression 1 rfl ?_
  show ab_Z m_Mo_expression _ _ _ 77 [_, _, _] [] _
  refine ab_go ok_Mo_expression 2 rfl ?_
  show ab_Z m_Mo_expression _ _ _ 79 [_, _, _] [_, _] _
  refine ab_cl ok_Mo_expression rfl [_, _] [] rfl ⟨_, _, rfl, rfl, Or.inl ⟨_, _, rfl, rfl⟩⟩ (Nat.le_of_ble_eq_true rfl) (t_Mo_is (d + 2) fm X s1 t hT1 hR (w := 43) (by decide) _ rfl) ?_
  rintro _ _ ⟨rfl, rfl⟩
  show ab_Z m_Mo_expression _ _ _ 80 [_, _, _] [_] _
  refine ab_go ok_Mo_expression 1 rfl ?_
  show ab_Z m_Mo_expression _ _ _ 81 [_, _, _] [] _
  refine ab_go ok_Mo_expression 2 rfl ?_
  show ab_Z m_Mo_expression _ _ _ 83 [_, _, _] [_, _] _
  refine ab_cl ok_Mo_expression rfl [_, _] [] rfl ⟨_, _, rfl, rfl, Or.inl ⟨_, _, rfl, rfl⟩⟩ (Nat.le_of_ble_eq_true rfl) (t_Mo_is (d + 2) fm X s1 t hT1 hR (w := 45) (by decide) _ rfl) ?_
  rintro _ _ ⟨rfl, rfl⟩
  show ab_Z m_Mo_expression _ _ _ 84 [_, _, _] [_] _
  refine ab_go ok_Mo_expression 1 rfl ?_
  show ab_Z m_Mo_expression _ _ _ 85 [_, _, _] [] _
  refine ab_go ok_Mo_expression 2 rfl ?_
  show ab_Z m_Mo_expression _ _ _ 87 [_, _, _] [_, _] _
  refine ab_cl ok_Mo_expression rfl [_, _] [] rfl ⟨_, _, rfl, rfl, Or.inl ⟨_, _, rfl, rfl⟩⟩ (Nat.le_of_ble_eq_true rfl) (t_Mo_is (d + 2) fm X s1 t hT1 hR (w := 42) (by decide) _ rfl) ?_
  rintro _ _ ⟨rfl, rfl⟩
  show ab_Z m_Mo_expression _ _ _ 88 [_, _, _] [_] _
  refine ab_go ok_Mo_expression 1 rfl ?_
  show ab_Z m_Mo_expression _ _ _ 89 [_, _, _] [] _
  refine ab_go ok_Mo_expression 2 rfl ?_
  show ab_Z m_Mo_expression _ _ _ 91 [_, _, _] [_, _] _
  refine ab_cl ok_Mo_expression rfl [_, _] [] rfl ⟨_, _, rfl, rfl, Or.inl ⟨_, _, rfl, rfl⟩⟩ (Nat.le_of_ble_eq_true rfl) (t_Mo_is (d + 2) fm X s1 t hT1 hR (w := 47) (by decide) _ rfl) ?_
  rintro _ _ ⟨rfl, rfl⟩
  show ab_Z m_Mo_expression _ _ _ 92 [_, _, _] [_] _
  refine ab_go ok_Mo_expression 1 rfl ?_
  show ab_Z m_Mo_expression _ _ _ 95 [_, _, _] [] _
  refine ab_go ok_Mo_expression 3 rfl ?_
  show ab_Z m_Mo_expression _ _ _ 98 [_, _, _] [_] _
  refine ab_go ok_Mo_expression 1 rfl ?_
  show ab_Z m_Mo_expression _ _ _ 99 [_, _, _] [] _
  refine ab_go ok_Mo_expression 3 rfl ?_
  show ab_Z m_Mo_expression _ _ _ 102 [_, _, _] [_, _] _
  refine ab_br ok_Mo_expression rfl rfl ?_ ?_
  · intro h1
    show ab_Z m_Mo_expression _ _ _ 106 [_, _, _] [] _
    exact last
  · intro h1
    show ab_Z m_Mo_expression _ _ _ 103 [_, _, _] [] _
    refine ab_go ok_Mo_expression 2 rfl ?_
    show ab_Z m_Mo_expression _ _ _ 105 [_, _, _] [_, _] _
    refine ab_cl ok_Mo_expression rfl [_, _] [] rfl ⟨_, _, rfl, rfl, Or.inl ⟨_, _, rfl, rfl⟩⟩ (Nat.le_of_ble_eq_true rfl) (t_Mo_fail (d + 2) fm X s1 t hT1 hR (c := 1) (by omega) _ rfl) ?_
    rintro _ _ ⟨rfl, s2, rfl, k2, hR2, -⟩
    show ab_Z m_Mo_expression _ _ _ 106 [_, _, _] [] _
    refine ab_go ok_Mo_expression 2 rfl ?_
    show ab_Z m_Mo_expression _ _ _ 108 [_, _, _] [_, _] _
    refine ab_cl ok_Mo_expression rfl [_, _] [] rfl ⟨_, _, rfl, rfl, Or.inl ⟨_, _, rfl, rfl⟩⟩ (Nat.le_of_ble_eq_true rfl) (t_Mo_comesOut (d + 1) fm X s2 t (hX.j k2) hb he hw false _ rfl) ?_
    rintro _ _ ⟨rfl, s3, rfl, k3, k4, -⟩
    show ab_Z m_Mo_expression _ _ _ 109 [_, _, _] [] _
    exact ab_rV ok_Mo_expression rfl (hF s3 ((k1.tr k2.x).tr k3) (hR2.of (k4 11 (by decide) (by decide)) (k4 13 (by decide) (by decide)) (k4 14 (by decide) (by decide))))
/-- an operator waits -/
theorem x_op (hT : TM s t K P v nm) (he : ce ≤ 840) {n : Nat} {w : List Nat} {C : List Ins} {o : Nat} (hK : isO (K n)) (hlen : (flO (decide (K n = 42 ∨ K n = 47)) w).2.length < 3 * o + 2) (hG : goT n = .inl (n + 1) → goA d fm X s t K P c0 ce Po (n + 1) (K n :: (flO (decide (K n = 42 ∨ K n = 47)) w).2) (C ++ (flO (decide (K n = 42 ∨ K n = 47)) w).1) o) (hF : ∀ e, goT n = .inr e → FE fm X s t K P c0 ce Po e) : goB d fm X s t K P c0 ce Po n w C o := by
  intro s1 hA
  obtain ⟨k1, hR, hX, hb, hw, ho⟩ := hA
  have hT1 := k1.T hT
  have hn4 : n ≤ 400 := hR.2.2.1
  have hfl := flO_len (decide (K n = 42 ∨ K n = 47)) w
  have tail : ab_Z m_Mo_expression (d + 3) (0, 0) Po 122 [some (.ref 81), some (.int (nI 0)), some (.int 1)] [.int (bB (decide (K n = 42 ∨ K n = 47))), .ref 81] (HA fm X s1 t) := by
    refine ab_cl ok_Mo_expression rfl [_, _] [] rfl ⟨_, _, rfl, rfl, Or.inl ⟨_, _, rfl, rfl⟩⟩ (Nat.le_of_ble_eq_true rfl) (t_Mo_comesOut (d + 1) fm X s1 t hX (by omega) he (by omega) _ _ rfl) ?_
    rintro _ _ ⟨rfl, s2, rfl, k2, k3, hX2⟩
    show ab_Z m_Mo_expression _ _ _ 123 [_, _, _] [] _
    have hR2 : RdM s2 K P (.inl n) := hR.of (k3 11 (by decide) (by decide)) (k3 13 (by decide) (by decide)) (k3 14 (by decide) (by decide))
    have hT2 := k2.T hT1
    obtain ⟨w2, hw2⟩ : ∃ w2, w2 = (flO (decide (K n = 42 ∨ K n = 47)) w).2 := ⟨_, rfl⟩
    obtain ⟨C2, hC2⟩ : ∃ C2, C2 = C ++ (flO (decide (K n = 42 ∨ K n = 47)) w).1 := ⟨_, rfl⟩
    rw [← hw2, ← hC2] at hX2 hG
    have hlC : C2.length + w2.length = C.length + w.length := by rw [hC2, hw2, List.length_append]; omega
    rw [← hw2] at hlen
    refine ab_go ok_Mo_expression 8 rfl ?_
    show ab_Z m_Mo_expression _ _ _ 131 [_, _, _] [_, _, _, _] _
    rw [hX2.2.2.1, hR2.1]
    refine ab_ia ok_Mo_expression rfl rfl (k := n) (by first | rfl | (simp only [LL1, LL2, LL3, LL4, LL5, LL6, LL7, LL8, LL10, LL15, LL18, LL20, LL21, LL22, LL23, LL24, LL32, LL39, LL40, LL130, LL420, pk_mul, nI_add]; done) | (simp only [LL1, LL2, LL3, LL4, LL5, LL6, LL7, LL8, LL10, LL15, LL18, LL20, LL21, LL22, LL23, LL24, LL32, LL39, LL40, LL130, LL420, pk_mul, nI_add]; congr 1; omega)) (by omega) (Nat.le_of_ble_eq_true rfl) ?_
    show ab_Z m_Mo_expression _ _ _ 132 [_, _, _] [_, _, _] _
    rw [(hT2.1 n hR2.2.2).1]
    refine ab_is ok_Mo_expression rfl rfl (k := (w2.length)) (by first | rfl | (simp only [LL1, LL2, LL3, LL4, LL5, LL6, LL7, LL8, LL10, LL15, LL18, LL20, LL21, LL22, LL23, LL24, LL32, LL39, LL40, LL130, LL420, pk_mul, nI_add]; done) | (simp only [LL1, LL2, LL3, LL4, LL5, LL6, LL7, LL8, LL10, LL15, LL18, LL20, LL21, LL22, LL23, LL24, LL32, LL39, LL40, LL130, LL420, pk_mul, nI_add]; congr 1; omega)) (by omega) (Nat.le_of_ble_eq_true rfl) ?_
    show ab_Z m_Mo_expression _ _ _ 133 [_, _, _] [] _
    refine ab_go ok_Mo_expression 7 rfl ?_
    show ab_Z m_Mo_expression _ _ _ 140 [_, _, _] [_] _
    rw [show ab_up s2 111 w2.length (nI (rkF (K n))) 81 46 = nI w2.length from by rw [ab_up_o (by decide)]; exact hX2.2.2.1, ← nI_succ]
    obtain ⟨s3, hs3⟩ : ∃ s3, s3 = ab_up (ab_up s2 111 w2.length (nI (rkF (K n)))) 81 46 (nI (w2.length + 1)) := ⟨_, rfl⟩
    rw [← hs3]
    have k23 : KX c0 ce s2 s3 := by rw [hs3]; exact KX.u (by omega) (KX.u (by omega) (KX.rf c0 ce s2))
    have hR3 : RdM s3 K P (.inl n) := by
      rw [hs3]
      exact hR2.of (by rw [ab_up_n (by decide), ab_up_o (by decide)]) (by rw [ab_up_n (by decide), ab_up_o (by decide)]) (by rw [ab_up_n (by decide), ab_up_o (by decide)])
    have hX3 : XP s3 c0 C2 (K n :: w2) o := by
      rw [hs3]
      obtain ⟨b1, b2, b3, b4, b5, b6⟩ := hX2
      refine ⟨by rw [ab_up_n (by decide), ab_up_o (by decide)]; exact b1, fun j q hq => ?_, ab_up_s .., ⟨by rw [ab_up_o (by decide), ab_up_s], b4.of (fun k hk => by rw [ab_up_o (by decide), ab_up_n (by omega)])⟩, by rw [ab_up_n (by decide), ab_up_o (by decide)]; exact b5, fun x hx => ?_⟩
      · rw [ab_up_o (by decide), ab_up_o (by decide), ab_up_o (by decide), ab_up_o (by decide)]
        exact b2 j q hq
      · rcases List.mem_cons.mp hx with rfl | hx
        · exact Or.inr hK
        · exact b6 x hx
    refine ab_cl ok_Mo_expression rfl [_] [] rfl ⟨_, _, rfl, rfl, Or.inl ⟨_, _, rfl, rfl⟩⟩ (Nat.le_of_ble_eq_true rfl) (t_Mo_goesOn (d + 1) fm X s3 t (k23.T hT2) hR3 (fun j hj => by cases hj; unfold isO at hK; omega)) ?_
    rintro _ _ ⟨rfl, s4, rfl, k4, hR4⟩
    show ab_Z m_Mo_expression _ _ _ 141 [_, _, _] [] _
    have k14 := ((k1.tr k2).tr k23).tr k4.x
    refine ab_go ok_Mo_expression 1 rfl ?_
    show ab_Z m_Mo_expression _ _ _ 8 [_, _, _] [] _
    refine ab_go ok_Mo_expression 1 rfl ?_
    show ab_Z m_Mo_expression _ _ _ 9 [_, _, _] [_] _
    refine ab_go ok_Mo_expression 1 rfl ?_
    show ab_Z m_Mo_expression _ _ _ 10 [_, _, _] [] _
    refine ab_go ok_Mo_expression 2 rfl ?_
    show ab_Z m_Mo_expression _ _ _ 12 [_, _, _] [_] _
    rw [bnd_l] at hR4
    cases hg : goT n with
    | inr e =>
      rw [hg] at hR4
      rw [hR4.1]
      refine ab_br ok_Mo_expression rfl rfl ?_ ?_
      · intro h1
        show ab_Z m_Mo_expression _ _ _ 13 [_, _, _] [] _
        exact absurd h1 (fl_1 hR4.2.2.1).1
      · intro h1
        show ab_Z m_Mo_expression _ _ _ 142 [_, _, _] [] _
        exact ab_rV ok_Mo_expression rfl (hF e hg s4 k14 hR4)
    | inl n1 =>
      have hn1 : n1 = n + 1 := by unfold goT at hg; split at hg; cases hg; rfl; cases hg
      subst hn1
      rw [hg] at hR4
      rw [hR4.2.1]
      refine ab_go ok_Mo_expression 1 rfl ?_
      show ab_Z m_Mo_expression _ _ _ 13 [_, _, _] [] _
      exact hG hg s4 ⟨k14, hR4, hX3.j k4, by show c0 + C2.length + (w2.length + 1) + 420 ≤ ce + (n + 1); omega, by show w2.length + 1 ≤ 3 * o + 2; omega, ho⟩
  refine ab_go ok_Mo_expression 2 rfl ?_
  show ab_Z m_Mo_expression _ _ _ 53 [_, _, _] [_, _] _
  refine ab_cl ok_Mo_expression rfl [_, _] [] rfl ⟨_, _, rfl, rfl, Or.inl ⟨_, _, rfl, rfl⟩⟩ (Nat.le_of_ble_eq_true rfl) (t_Mo_is (d + 2) fm X s1 t hT1 hR (w := 41) (by decide) _ rfl) ?_
  rintro _ _ ⟨rfl, rfl⟩
  show ab_Z m_Mo_expression _ _ _ 54 [_, _, _] [_] _
  rw [show isK K (.inl n) 41 = false from decide_eq_false (by unfold isO at hK; omega)]
  refine ab_go ok_Mo_expression 1 rfl ?_
  show ab_Z m_Mo_expression _ _ _ 77 [_, _, _] [] _
  have mid : ∀ b : Bool, b = decide (K n = 42 ∨ K n = 47) → ab_Z m_Mo_expression (d + 3) (0, 0) Po 93 [some (.ref 81), some (.int (nI 0)), none] [] (HA fm X s1 t) := by
    intro b hb2
    refine ab_go ok_Mo_expression 4 rfl ?_
    show ab_Z m_Mo_expression _ _ _ 98 [_, _, _] [_] _
    refine ab_go ok_Mo_expression 1 rfl ?_
    show ab_Z m_Mo_expression _ _ _ 110 [_, _, _] [] _
    refine ab_go ok_Mo_expression 3 rfl ?_
    show ab_Z m_Mo_expression _ _ _ 113 [_, _, _] [_, _, _] _
    refine ab_cl ok_Mo_expression rfl [_, _] [_] rfl ⟨_, _, rfl, rfl, Or.inl ⟨_, _, rfl, rfl⟩⟩ (Nat.le_of_ble_eq_true rfl) (t_Mo_is (d + 2) fm X s1 t hT1 hR (w := 42) (by decide) _ rfl) ?_
    rintro _ _ ⟨rfl, rfl⟩
    show ab_Z m_Mo_expression _ _ _ 114 [_, _, _] [_, _] _
    refine ab_br ok_Mo_expression rfl rfl ?_ ?_
    · intro h1
      show ab_Z m_Mo_expression _ _ _ 115 [_, _, _] [_] _
      have h1' : ¬ K n = 42 := of_decide_eq_false (bB_0.mp h1)
      refine ab_go ok_Mo_expression 2 rfl ?_
      show ab_Z m_Mo_expression _ _ _ 117 [_, _, _] [_, _, _] _
      refine ab_cl ok_Mo_expression rfl [_, _] [_] rfl ⟨_, _, rfl, rfl, Or.inl ⟨_, _, rfl, rfl⟩⟩ (Nat.le_of_ble_eq_true rfl) (t_Mo_is (d + 2) fm X s1 t hT1 hR (w := 47) (by decide) _ rfl) ?_
      rintro _ _ ⟨rfl, rfl⟩
      show ab_Z m_Mo_expression _ _ _ 118 [_, _, _] [_, _] _
      refine ab_br ok_Mo_expression rfl rfl ?_ ?_
      · intro h2
        show ab_Z m_Mo_expression _ _ _ 121 [_, _, _] [_] _
        have h2' : ¬ K n = 47 := of_decide_eq_false (bB_0.mp h2)
        rw [decide_eq_false (show ¬ (K n = 42 ∨ K n = 47) by omega)] at tail
        refine ab_go ok_Mo_expression 1 rfl ?_
        show ab_Z m_Mo_expression _ _ _ 122 [_, _, _] [_, _] _
        exact tail
      · intro h2
        show ab_Z m_Mo_expression _ _ _ 119 [_, _, _] [_] _
        have h2' : K n = 47 := of_decide_eq_true (bB_n0 h2)
        rw [decide_eq_true (show (K n = 42 ∨ K n = 47) by omega)] at tail
        refine ab_go ok_Mo_expression 2 rfl ?_
        show ab_Z m_Mo_expression _ _ _ 122 [_, _, _] [_, _] _
        exact tail
    · intro h1
      show ab_Z m_Mo_expression _ _ _ 119 [_, _, _] [_] _
      have h1' : K n = 42 := of_decide_eq_true (bB_n0 h1)
      rw [decide_eq_true (show (K n = 42 ∨ K n = 47) by omega)] at tail
      refine ab_go ok_Mo_expression 2 rfl ?_
      show ab_Z m_Mo_expression _ _ _ 122 [_, _, _] [_, _] _
      exact tail
  refine ab_go ok_Mo_expression 2 rfl ?_
  show ab_Z m_Mo_expression _ _ _ 79 [_, _, _] [_, _] _
  refine ab_cl ok_Mo_expression rfl [_, _] [] rfl ⟨_, _, rfl, rfl, Or.inl ⟨_, _, rfl, rfl⟩⟩ (Nat.le_of_ble_eq_true rfl) (t_Mo_is (d + 2) fm X s1 t hT1 hR (w := 43) (by decide) _ rfl) ?_
  rintro _ _ ⟨rfl, rfl⟩
  show ab_Z m_Mo_expression _ _ _ 80 [_, _, _] [_] _
  refine ab_br ok_Mo_expression rfl rfl ?_ ?_
  · intro h1
    show ab_Z m_Mo_expression _ _ _ 81 [_, _, _] [] _
    have h1' : ¬ K n = 43 := of_decide_eq_false (bB_0.mp h1)
    refine ab_go ok_Mo_expression 2 rfl ?_
    show ab_Z m_Mo_expression _ _ _ 83 [_, _, _] [_, _] _
    refine ab_cl ok_Mo_expression rfl [_, _] [] rfl ⟨_, _, rfl, rfl, Or.inl ⟨_, _, rfl, rfl⟩⟩ (Nat.le_of_ble_eq_true rfl) (t_Mo_is (d + 2) fm X s1 t hT1 hR (w := 45) (by decide) _ rfl) ?_
    rintro _ _ ⟨rfl, rfl⟩
    show ab_Z m_Mo_expression _ _ _ 84 [_, _, _] [_] _
    refine ab_br ok_Mo_expression rfl rfl ?_ ?_
    · intro h2
      show ab_Z m_Mo_expression _ _ _ 85 [_, _, _] [] _
      have h2' : ¬ K n = 45 := of_decide_eq_false (bB_0.mp h2)
      refine ab_go ok_Mo_expression 2 rfl ?_
      show ab_Z m_Mo_expression _ _ _ 87 [_, _, _] [_, _] _
      refine ab_cl ok_Mo_expression rfl [_, _] [] rfl ⟨_, _, rfl, rfl, Or.inl ⟨_, _, rfl, rfl⟩⟩ (Nat.le_of_ble_eq_true rfl) (t_Mo_is (d + 2) fm X s1 t hT1 hR (w := 42) (by decide) _ rfl) ?_
      rintro _ _ ⟨rfl, rfl⟩
      show ab_Z m_Mo_expression _ _ _ 88 [_, _, _] [_] _
      refine ab_br ok_Mo_expression rfl rfl ?_ ?_
      · intro h3
        show ab_Z m_Mo_expression _ _ _ 89 [_, _, _] [] _
        have h3' : ¬ K n = 42 := of_decide_eq_false (bB_0.mp h3)
        refine ab_go ok_Mo_expression 2 rfl ?_
        show ab_Z m_Mo_expression _ _ _ 91 [_, _, _] [_, _] _
        refine ab_cl ok_Mo_expression rfl [_, _] [] rfl ⟨_, _, rfl, rfl, Or.inl ⟨_, _, rfl, rfl⟩⟩ (Nat.le_of_ble_eq_true rfl) (t_Mo_is (d + 2) fm X s1 t hT1 hR (w := 47) (by decide) _ rfl) ?_
        rintro _ _ ⟨rfl, rfl⟩
        show ab_Z m_Mo_expression _ _ _ 92 [_, _, _] [_] _
        rw [show isK K (.inl n) 47 = true from decide_eq_true (by unfold isO at hK; omega)]
        refine ab_go ok_Mo_expression 1 rfl ?_
        show ab_Z m_Mo_expression _ _ _ 93 [_, _, _] [] _
        exact mid _ rfl
      · intro h3
        show ab_Z m_Mo_expression _ _ _ 93 [_, _, _] [] _
        exact mid _ rfl
    · intro h2
      show ab_Z m_Mo_expression _ _ _ 93 [_, _, _] [] _
      exact mid _ rfl
  · intro h1
    show ab_Z m_Mo_expression _ _ _ 93 [_, _, _] [] _
    exact mid _ rfl
/-- no operator: the end, or a bracket wanting -/
theorem x_end (hT : TM s t K P v nm) (he : ce ≤ 840) {n : Nat} {w : List Nat} {C : List Ins} {o : Nat} (hK : ¬ isO (K n)) (hK41 : K n = 41 → o = 0) (hG : o = 0 → (flO false w).2 = [] ∧ DE fm X s t K P c0 ce Po n (C ++ (flO false w).1)) (hF : o ≠ 0 → FE fm X s t K P c0 ce Po (1, n)) : goB d fm X s t K P c0 ce Po n w C o := by
  intro s1 hA
  obtain ⟨k1, hR, hX, hb, hw, ho⟩ := hA
  have hT1 := k1.T hT
  have hn4 : n ≤ 400 := hR.2.2.1
  unfold isO at hK
  have rest : ab_Z m_Mo_expression (d + 3) (0, 0) Po 77 [some (.ref 81), some (.int (nI 0)), none] [] (HA fm X s1 t) := by
    refine ab_go ok_Mo_expression 2 rfl ?_
    show ab_Z m_Mo_expression _ _ _ 79 [_, _, _] [_, _] _
    refine ab_cl ok_Mo_expression rfl [_, _] [] rfl ⟨_, _, rfl, rfl, Or.inl ⟨_, _, rfl, rfl⟩⟩ (Nat.le_of_ble_eq_true rfl) (t_Mo_is (d + 2) fm X s1 t hT1 hR (w := 43) (by decide) _ rfl) ?_
    rintro _ _ ⟨rfl, rfl⟩
    show ab_Z m_Mo_expression _ _ _ 80 [_, _, _] [_] _
    rw [show isK K (.inl n) 43 = false from decide_eq_false (by omega)]
    refine ab_go ok_Mo_expression 1 rfl ?_
    show ab_Z m_Mo_expression _ _ _ 81 [_, _, _] [] _
    refine ab_go ok_Mo_expression 2 rfl ?_
    show ab_Z m_Mo_expression _ _ _ 83 [_, _, _] [_, _] _
    refine ab_cl ok_Mo_expression rfl [_, _] [] rfl ⟨_, _, rfl, rfl, Or.inl ⟨_, _, rfl, rfl⟩⟩ (Nat.le_of_ble_eq_true rfl) (t_Mo_is (d + 2) fm X s1 t hT1 hR (w := 45) (by decide) _ rfl) ?_
    rintro _ _ ⟨rfl, rfl⟩
    show ab_Z m_Mo_expression _ _ _ 84 [_, _, _] [_] _
    rw [show isK K (.inl n) 45 = false from decide_eq_false (by omega)]
    refine ab_go ok_Mo_expression 1 rfl ?_
    show ab_Z m_Mo_expression _ _ _ 85 [_, _, _] [] _
    refine ab_go ok_Mo_expression 2 rfl ?_
    show ab_Z m_Mo_expression _ _ _ 87 [_, _, _] [_, _] _
    refine ab_cl ok_Mo_expression rfl [_, _] [] rfl ⟨_, _, rfl, rfl, Or.inl ⟨_, _, rfl, rfl⟩⟩ (Nat.le_of_ble_eq_true rfl) (t_Mo_is (d + 2) fm X s1 t hT1 hR (w := 42) (by decide) _ rfl) ?_
    rintro _ _ ⟨rfl, rfl⟩
    show ab_Z m_Mo_expression _ _ _ 88 [_, _, _] [_] _
    rw [show isK K (.inl n) 42 = false from decide_eq_false (by omega)]
    refine ab_go ok_Mo_expression 1 rfl ?_
    show ab_Z m_Mo_expression _ _ _ 89 [_, _, _] [] _
    refine ab_go ok_Mo_expression 2 rfl ?_
    show ab_Z m_Mo_expression _ _ _ 91 [_, _, _] [_, _] _
    refine ab_cl ok_Mo_expression rfl [_, _] [] rfl ⟨_, _, rfl, rfl, Or.inl ⟨_, _, rfl, rfl⟩⟩ (Nat.le_of_ble_eq_true rfl) (t_Mo_is (d + 2) fm X s1 t hT1 hR (w := 47) (by decide) _ rfl) ?_
    rintro _ _ ⟨rfl, rfl⟩
    show ab_Z m_Mo_expression _ _ _ 92 [_, _, _] [_] _
    rw [show isK K (.inl n) 47 = false from decide_eq_false (by omega)]
    refine ab_go ok_Mo_expression 1 rfl ?_
    show ab_Z m_Mo_expression _ _ _ 95 [_, _, _] [] _
    refine ab_go ok_Mo_expression 3 rfl ?_
    show ab_Z m_Mo_expression _ _ _ 98 [_, _, _] [_] _
    refine ab_go ok_Mo_expression 1 rfl ?_
    show ab_Z m_Mo_expression _ _ _ 99 [_, _, _] [] _
    refine ab_go ok_Mo_expression 3 rfl ?_
    show ab_Z m_Mo_expression _ _ _ 102 [_, _, _] [_, _] _
    rw [hX.2.2.2.2.1]
    refine ab_br ok_Mo_expression rfl rfl ?_ ?_
    · intro h1
      show ab_Z m_Mo_expression _ _ _ 106 [_, _, _] [] _
      have h0 : o = 0 := by have := (nI_leI (show o < 2 ^ 31 by omega) (show 0 < 2 ^ 31 by decide)).mp h1; omega
      obtain ⟨g1, g2⟩ := hG h0
      refine ab_go ok_Mo_expression 2 rfl ?_
      show ab_Z m_Mo_expression _ _ _ 108 [_, _, _] [_, _] _
      refine ab_cl ok_Mo_expression rfl [_, _] [] rfl ⟨_, _, rfl, rfl, Or.inl ⟨_, _, rfl, rfl⟩⟩ (Nat.le_of_ble_eq_true rfl) (t_Mo_comesOut (d + 1) fm X s1 t hX (by omega) he (by omega) false _ rfl) ?_
      rintro _ _ ⟨rfl, s2, rfl, k2, k3, hX2⟩
      show ab_Z m_Mo_expression _ _ _ 109 [_, _, _] [] _
      rw [g1, h0] at hX2
      exact ab_rV ok_Mo_expression rfl (g2 s2 (k1.tr k2) (hR.of (k3 11 (by decide) (by decide)) (k3 13 (by decide) (by decide)) (k3 14 (by decide) (by decide))) hX2)
    · intro h1
      show ab_Z m_Mo_expression _ _ _ 103 [_, _, _] [] _
      have h0 : o ≠ 0 := fun z => h1 (by rw [z]; exact lp_out 0)
      refine ab_go ok_Mo_expression 2 rfl ?_
      show ab_Z m_Mo_expression _ _ _ 105 [_, _, _] [_, _] _
      refine ab_cl ok_Mo_expression rfl [_, _] [] rfl ⟨_, _, rfl, rfl, Or.inl ⟨_, _, rfl, rfl⟩⟩ (Nat.le_of_ble_eq_true rfl) (t_Mo_fail (d + 2) fm X s1 t hT1 hR (c := 1) (by omega) _ rfl) ?_
      rintro _ _ ⟨rfl, s2, rfl, k2, hR2, -⟩
      show ab_Z m_Mo_expression _ _ _ 106 [_, _, _] [] _
      refine ab_go ok_Mo_expression 2 rfl ?_
      show ab_Z m_Mo_expression _ _ _ 108 [_, _, _] [_, _] _
      refine ab_cl ok_Mo_expression rfl [_, _] [] rfl ⟨_, _, rfl, rfl, Or.inl ⟨_, _, rfl, rfl⟩⟩ (Nat.le_of_ble_eq_true rfl) (t_Mo_comesOut (d + 1) fm X s2 t (hX.j k2) (by omega) he (by omega) false _ rfl) ?_
      rintro _ _ ⟨rfl, s3, rfl, k3, k4, -⟩
      show ab_Z m_Mo_expression _ _ _ 109 [_, _, _] [] _
      exact ab_rV ok_Mo_expression rfl (hF h0 s3 ((k1.tr k2.x).tr k3) (hR2.of (k4 11 (by decide) (by decide)) (k4 13 (by decide) (by decide)) (k4 14 (by decide) (by decide))))
  refine ab_go ok_Mo_expression 2 rfl ?_
  show ab_Z m_Mo_expression _ _ _ 53 [_, _, _] [_, _] _
  refine ab_cl ok_Mo_expression rfl [_, _] [] rfl ⟨_, _, rfl, rfl, Or.inl ⟨_, _, rfl, rfl⟩⟩ (Nat.le_of_ble_eq_true rfl) (t_Mo_is (d + 2) fm X s1 t hT1 hR (w := 41) (by decide) _ rfl) ?_
  rintro _ _ ⟨rfl, rfl⟩
  show ab_Z m_Mo_expression _ _ _ 54 [_, _, _] [_] _
  refine ab_br ok_Mo_expression rfl rfl ?_ ?_
  · intro h1
    show ab_Z m_Mo_expression _ _ _ 77 [_, _, _] [] _
    exact rest
  · intro h1
    show ab_Z m_Mo_expression _ _ _ 55 [_, _, _] [] _
    have h0 := hK41 (of_decide_eq_true (bB_n0 h1))
    refine ab_go ok_Mo_expression 3 rfl ?_
    show ab_Z m_Mo_expression _ _ _ 58 [_, _, _] [_, _] _
    rw [hX.2.2.2.2.1, h0]
    refine ab_go ok_Mo_expression 1 rfl ?_
    show ab_Z m_Mo_expression _ _ _ 77 [_, _, _] [] _
    exact rest
/-- a bracket closes -/
theorem x_cl (hT : TM s t K P v nm) (he : ce ≤ 840) {n : Nat} {w w' : List Nat} {C : List Ins} {o : Nat} (hK : K n = 41) (hfl : (flO false w).2 = 40 :: w') (hw' : w'.length ≤ 3 * o + 2) (hG : goT n = .inl (n + 1) → goB d fm X s t K P c0 ce Po (n + 1) w' (C ++ (flO false w).1) o) (hF : ∀ e, goT n = .inr e → FE fm X s t K P c0 ce Po e) : goB d fm X s t K P c0 ce Po n w C (o + 1) := by
  intro s1 hA
  obtain ⟨k1, hR, hX, hb, hw, ho⟩ := hA
  have hT1 := k1.T hT
  have hn4 : n ≤ 400 := hR.2.2.1
  have hlen := flO_len false w
  rw [hfl] at hlen
  have hlen' : (flO false w).1.length + (w'.length + 1) = w.length := hlen
  refine ab_go ok_Mo_expression 2 rfl ?_
  show ab_Z m_Mo_expression _ _ _ 53 [_, _, _] [_, _] _
  refine ab_cl ok_Mo_expression rfl [_, _] [] rfl ⟨_, _, rfl, rfl, Or.inl ⟨_, _, rfl, rfl⟩⟩ (Nat.le_of_ble_eq_true rfl) (t_Mo_is (d + 2) fm X s1 t hT1 hR (w := 41) (by decide) _ rfl) ?_
  rintro _ _ ⟨rfl, rfl⟩
  show ab_Z m_Mo_expression _ _ _ 54 [_, _, _] [_] _
  rw [show isK K (.inl n) 41 = true from decide_eq_true hK]
  refine ab_go ok_Mo_expression 1 rfl ?_
  show ab_Z m_Mo_expression _ _ _ 55 [_, _, _] [] _
  refine ab_go ok_Mo_expression 3 rfl ?_
  show ab_Z m_Mo_expression _ _ _ 58 [_, _, _] [_, _] _
  rw [hX.2.2.2.2.1]
  refine ab_br ok_Mo_expression rfl rfl ?_ ?_
  · intro h1
    show ab_Z m_Mo_expression _ _ _ 77 [_, _, _] [] _
    exact absurd ((nI_leI (show o + 1 < 2 ^ 31 by omega) (show 0 < 2 ^ 31 by decide)).mp h1) (by omega)
  · intro h1
    show ab_Z m_Mo_expression _ _ _ 59 [_, _, _] [] _
    refine ab_go ok_Mo_expression 2 rfl ?_
    show ab_Z m_Mo_expression _ _ _ 61 [_, _, _] [_, _] _
    refine ab_cl ok_Mo_expression rfl [_, _] [] rfl ⟨_, _, rfl, rfl, Or.inl ⟨_, _, rfl, rfl⟩⟩ (Nat.le_of_ble_eq_true rfl) (t_Mo_comesOut (d + 1) fm X s1 t hX (by omega) he (by omega) false _ rfl) ?_
    rintro _ _ ⟨rfl, s2, rfl, k2, k3, hX2⟩
    show ab_Z m_Mo_expression _ _ _ 62 [_, _, _] [] _
    rw [hfl] at hX2
    have hR2 : RdM s2 K P (.inl n) := hR.of (k3 11 (by decide) (by decide)) (k3 13 (by decide) (by decide)) (k3 14 (by decide) (by decide))
    have hT2 := k2.T hT1
    refine ab_go ok_Mo_expression 13 rfl ?_
    show ab_Z m_Mo_expression _ _ _ 75 [_, _, _] [_] _
    rw [show ab_up s2 81 46 (s2 81 46 - 1) 81 12 = nI (o + 1) from by rw [ab_up_n (by decide)]; exact hX2.2.2.2.2.1, show s2 81 46 - 1 = nI w'.length from by rw [hX2.2.2.1, show (40 :: w').length = w'.length + 1 from rfl, show (1 : Int32) = nI 1 from rfl, pk_sub (Nat.le_add_left ..)]; rfl, show nI (o + 1) - 1 = nI o from by rw [show (1 : Int32) = nI 1 from rfl, pk_sub (Nat.le_add_left ..)]; rfl]
    obtain ⟨s3, hs3⟩ : ∃ s3, s3 = ab_up (ab_up s2 81 46 (nI w'.length)) 81 12 (nI o) := ⟨_, rfl⟩
    rw [← hs3]
    have k23 : KX c0 ce s2 s3 := by rw [hs3]; exact KX.u (by omega) (KX.u (by omega) (KX.rf c0 ce s2))
    have hR3 : RdM s3 K P (.inl n) := by
      rw [hs3]
      exact hR2.of (by rw [ab_up_n (by decide), ab_up_n (by decide)]) (by rw [ab_up_n (by decide), ab_up_n (by decide)]) (by rw [ab_up_n (by decide), ab_up_n (by decide)])
    have hX3 : XP s3 c0 (C ++ (flO false w).1) w' o := by
      rw [hs3]
      obtain ⟨b1, b2, b3, b4, b5, b6⟩ := hX2
      refine ⟨by rw [ab_up_n (by decide), ab_up_n (by decide)]; exact b1, fun j q hq => ?_, by rw [ab_up_n (by decide), ab_up_s], b4.2.of (fun k hk => by rw [ab_up_o (by decide), ab_up_o (by decide)]), ab_up_s .., fun x hx => b6 x (List.mem_cons_of_mem _ hx)⟩
      rw [ab_up_o (by decide), ab_up_o (by decide), ab_up_o (by decide), ab_up_o (by decide)]
      exact b2 j q hq
    refine ab_cl ok_Mo_expression rfl [_] [] rfl ⟨_, _, rfl, rfl, Or.inl ⟨_, _, rfl, rfl⟩⟩ (Nat.le_of_ble_eq_true rfl) (t_Mo_goesOn (d + 1) fm X s3 t (k23.T hT2) hR3 (fun j hj => by cases hj; omega)) ?_
    rintro _ _ ⟨rfl, s4, rfl, k4, hR4⟩
    show ab_Z m_Mo_expression _ _ _ 76 [_, _, _] [] _
    have k14 := ((k1.tr k2).tr k23).tr k4.x
    refine ab_go ok_Mo_expression 1 rfl ?_
    show ab_Z m_Mo_expression _ _ _ 51 [_, _, _] [] _
    rw [bnd_l] at hR4
    have hlC : (C ++ (flO false w).1).length = C.length + (flO false w).1.length := List.length_append
    cases hg : goT n with
    | inr e =>
      rw [hg] at hR4
      exact x_badB d fm X s t hT he k14 hR4 (hX3.j k4) (by omega) (by omega) (hF e hg)
    | inl n1 =>
      have hn1 : n1 = n + 1 := by unfold goT at hg; split at hg; cases hg; rfl; cases hg
      subst hn1
      rw [hg] at hR4
      exact hG hg s4 ⟨k14, hR4, hX3.j k4, by omega, hw', by omega⟩
end

