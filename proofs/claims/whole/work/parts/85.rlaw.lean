section
variable (d : Nat) (fm : Value) (X : Nat × (Nat → Int32)) (s : Nat → Nat → Int32) (t : Nat → Nat → Int64)
variable {K P v : Nat → Nat} {nm : Nat → List Nat} {c0 ce b0 be : Nat} {Po : Option Value → ab_H → Prop}
/-- the same, with 102 and 103 at one place -/
def KTl (c0 ce b0 be q : Nat) (s s' : Nat → Nat → Int32) : Prop := ∀ c k, ¬ (c = 81 ∧ (k = 11 ∨ k = 12 ∨ k = 13 ∨ k = 14 ∨ k = 36 ∨ k = 42 ∨ k = 46)) → c ≠ 111 → ¬ ((c = 109 ∨ c = 110) ∧ c0 ≤ k ∧ k < ce) → ¬ (104 ≤ c ∧ c ≤ 108 ∧ b0 ≤ k ∧ k < be) → ¬ ((c = 102 ∨ c = 103) ∧ k = q) → s' c k = s c k
theorem KB.tl {c0 ce b0 be q : Nat} {a b : Nat → Nat → Int32} (h : KB c0 ce b0 be a b) : KTl c0 ce b0 be q a b := fun x k p q r u _ => h x k p q r u
def lawE (K v : Nat → Nat) (n : Nat) : Rs (Nat × List (List Ins)) := bnd (eatT K 61 n) fun t2 => bnd (lawL K v 4 t2 []) fun q => bnd (eatT K 59 q.1) fun t1 => .inl (t1, q.2)
/-- a fault: all is passed over -/
theorem l_bad (hT : TM s t K P v nm) (he : ce ≤ 840) (hbe : be ≤ 260) {e : Nat × Nat} (hF : ∀ s2, KB c0 ce b0 be s s2 → RdM s2 K P (.inr e) → Po none (HA fm X s2 t)) (k f z : Int32) : (∀ s1 b, KB c0 ce b0 be s s1 → RdM s1 K P (.inr e) → s1 81 36 = nI b → b0 ≤ b → b + 1 < be → ab_Z m_Mo_tellLaw (d + 5) (0, 0) Po 28 [some (.ref 81), some (.int k), some (.int f), some (.int z)] [] (HA fm X s1 t)) ∧ (∀ s1 b, KB c0 ce b0 be s s1 → RdM s1 K P (.inr e) → s1 81 36 = nI b → b0 ≤ b → b + 1 < be → ab_Z m_Mo_tellLaw (d + 5) (0, 0) Po 43 [some (.ref 81), some (.int k), some (.int f), some (.int z)] [] (HA fm X s1 t)) ∧ (∀ s1 b, KB c0 ce b0 be s s1 → RdM s1 K P (.inr e) → s1 81 36 = nI b → b0 ≤ b → b + 1 < be → ab_Z m_Mo_tellLaw (d + 5) (0, 0) Po 46 [some (.ref 81), some (.int k), some (.int f), some (.int z)] [] (HA fm X s1 t)) ∧ (∀ s1 b, KB c0 ce b0 be s s1 → RdM s1 K P (.inr e) → s1 81 36 = nI b → b0 ≤ b → b + 1 < be → ab_Z m_Mo_tellLaw (d + 5) (0, 0) Po 58 [some (.ref 81), some (.int k), some (.int f), some (.int z)] [] (HA fm X s1 t)) ∧ (∀ s1 b, KB c0 ce b0 be s s1 → RdM s1 K P (.inr e) → s1 81 36 = nI b → b0 ≤ b → b + 1 < be → ab_Z m_Mo_tellLaw (d + 5) (0, 0) Po 61 [some (.ref 81), some (.int k), some (.int f), some (.int z)] [] (HA fm X s1 t)) ∧ (∀ s1 b, KB c0 ce b0 be s s1 → RdM s1 K P (.inr e) → s1 81 36 = nI b → b0 ≤ b → b < be → ab_Z m_Mo_tellLaw (d + 5) (0, 0) Po 63 [some (.ref 81), some (.int k), some (.int f), some (.int z)] [] (HA fm X s1 t)) ∧ (∀ s1 b, KB c0 ce b0 be s s1 → RdM s1 K P (.inr e) → s1 81 36 = nI b → b0 ≤ b → b < be → ab_Z m_Mo_tellLaw (d + 5) (0, 0) Po 8 [some (.ref 81), some (.int k), some (.int f), some (.int z)] [] (HA fm X s1 t)) ∧ (∀ s1, KB c0 ce b0 be s s1 → RdM s1 K P (.inr e) → ab_Z m_Mo_tellLaw (d + 5) (0, 0) Po 75 [some (.ref 81), some (.int k), some (.int f), some (.int z)] [] (HA fm X s1 t)) := by
  have keep : ∀ {s1 s2 : Nat → Nat → Int32}, KB c0 ce b0 be s s1 → KJ s1 s2 → KB c0 ce b0 be s s2 := fun h g => h.tr g.x.b
  have b75 : ∀ s1, KB c0 ce b0 be s s1 → RdM s1 K P (.inr e) → ab_Z m_Mo_tellLaw (d + 5) (0, 0) Po 75 [some (.ref 81), some (.int k), some (.int f), some (.int z)] [] (HA fm X s1 t) := by
    intro s1 k1 hR
    refine ab_go ok_Mo_tellLaw 2 rfl ?_
    show ab_Z m_Mo_tellLaw _ _ _ 77 [_, _, _, _] [_, _] _
    refine ab_cl ok_Mo_tellLaw rfl [_, _] [] rfl ⟨_, _, rfl, rfl, Or.inl ⟨_, _, rfl, rfl⟩⟩ (Nat.le_of_ble_eq_true rfl) (t_Mo_must (d + 2) fm X s1 t (k1.T hT) hR (w := 59) (by decide) (by decide) _ rfl) ?_
    rintro _ _ ⟨rfl, s2, rfl, k2, hR2⟩
    show ab_Z m_Mo_tellLaw _ _ _ 78 [_, _, _, _] [] _
    rw [bnd_r] at hR2
    refine ab_go ok_Mo_tellLaw 2 rfl ?_
    show ab_Z m_Mo_tellLaw _ _ _ 80 [_, _, _, _] [_] _
    rw [hR2.1]
    refine ab_br ok_Mo_tellLaw rfl rfl ?_ ?_
    · intro h1
      show ab_Z m_Mo_tellLaw _ _ _ 82 [_, _, _, _] [] _
      exact absurd h1 (fl_1 hR2.2.2.1).2.1
    · intro h1
      show ab_Z m_Mo_tellLaw _ _ _ 81 [_, _, _, _] [] _
      exact ab_rV ok_Mo_tellLaw rfl (hF s2 (keep k1 k2) hR2)
  have b8 : ∀ s1 b, KB c0 ce b0 be s s1 → RdM s1 K P (.inr e) → s1 81 36 = nI b → b0 ≤ b → b < be → ab_Z m_Mo_tellLaw (d + 5) (0, 0) Po 8 [some (.ref 81), some (.int k), some (.int f), some (.int z)] [] (HA fm X s1 t) := by
    intro s1 b k1 hR h36 hb0 hb1
    refine ab_go ok_Mo_tellLaw 2 rfl ?_
    show ab_Z m_Mo_tellLaw _ _ _ 10 [_, _, _, _] [_] _
    rw [hR.1]
    refine ab_br ok_Mo_tellLaw rfl rfl ?_ ?_
    · intro h1
      show ab_Z m_Mo_tellLaw _ _ _ 11 [_, _, _, _] [] _
      exact absurd h1 (fl_1 hR.2.2.1).1
    · intro h1
      show ab_Z m_Mo_tellLaw _ _ _ 67 [_, _, _, _] [] _
      refine ab_go ok_Mo_tellLaw 5 rfl ?_
      show ab_Z m_Mo_tellLaw _ _ _ 72 [_, _, _, _] [_, _, _] _
      rw [h36]
      first | (refine ab_bs1 ok_Mo_tellLaw rfl rfl (k := b) (by first | rfl | (simp only [LL1, LL2, LL3, LL4, LL5, LL6, LL7, LL8, LL10, LL15, LL18, LL20, LL21, LL22, LL23, LL24, LL32, LL39, LL40, LL130, LL420, pk_mul, nI_add]; done) | (simp only [LL1, LL2, LL3, LL4, LL5, LL6, LL7, LL8, LL10, LL15, LL18, LL20, LL21, LL22, LL23, LL24, LL32, LL39, LL40, LL130, LL420, pk_mul, nI_add]; congr 1; omega)) (by omega) (Nat.le_of_ble_eq_true rfl) ?_) | (refine ab_bs2 ok_Mo_tellLaw rfl rfl (k := b) (by first | rfl | (simp only [LL1, LL2, LL3, LL4, LL5, LL6, LL7, LL8, LL10, LL15, LL18, LL20, LL21, LL22, LL23, LL24, LL32, LL39, LL40, LL130, LL420, pk_mul, nI_add]; done) | (simp only [LL1, LL2, LL3, LL4, LL5, LL6, LL7, LL8, LL10, LL15, LL18, LL20, LL21, LL22, LL23, LL24, LL32, LL39, LL40, LL130, LL420, pk_mul, nI_add]; congr 1; omega)) (by omega) (Nat.le_of_ble_eq_true rfl) ?_)
      show ab_Z m_Mo_tellLaw _ _ _ 73 [_, _, _, _] [] _
      refine ab_go ok_Mo_tellLaw 1 rfl ?_
      show ab_Z m_Mo_tellLaw _ _ _ 74 [_, _, _, _] [_] _
      have k2 := k1.u (x := 0 &&& 1) (c := 104) (j := b) (by omega)
      have hR2 := hR.of (s' := ab_up s1 104 b (0 &&& 1)) (by rw [ab_up_o (by decide)]) (by rw [ab_up_o (by decide)]) (by rw [ab_up_o (by decide)])
      refine ab_cl ok_Mo_tellLaw rfl [_] [] rfl ⟨_, _, rfl, rfl, Or.inl ⟨_, _, rfl, rfl⟩⟩ (Nat.le_of_ble_eq_true rfl) (t_Mo_term d fm X _ t (k2.T hT) (c0 := c0) he hR2 (fun n hn => by cases hn) (b := b) (by rw [ab_up_o (by decide)]; exact h36) (by omega)) ?_
      rintro _ _ ⟨rfl, s2, rfl, k3, -, -, hR3, -⟩
      show ab_Z m_Mo_tellLaw _ _ _ 75 [_, _, _, _] [] _
      exact b75 s2 (k2.tr (k3.mo (Nat.le_refl _) hb0 (by omega))) hR3
  have b63 : ∀ s1 b, KB c0 ce b0 be s s1 → RdM s1 K P (.inr e) → s1 81 36 = nI b → b0 ≤ b → b < be → ab_Z m_Mo_tellLaw (d + 5) (0, 0) Po 63 [some (.ref 81), some (.int k), some (.int f), some (.int z)] [] (HA fm X s1 t) := by
    intro s1 b k1 hR h36 hb0 hb1
    refine ab_go ok_Mo_tellLaw 2 rfl ?_
    show ab_Z m_Mo_tellLaw _ _ _ 65 [_, _, _, _] [_, _] _
    refine ab_cl ok_Mo_tellLaw rfl [_, _] [] rfl ⟨_, _, rfl, rfl, Or.inl ⟨_, _, rfl, rfl⟩⟩ (Nat.le_of_ble_eq_true rfl) (t_Mo_must (d + 2) fm X s1 t (k1.T hT) hR (w := 267) (by decide) (by decide) _ rfl) ?_
    rintro _ _ ⟨rfl, s2, rfl, k2, hR2⟩
    show ab_Z m_Mo_tellLaw _ _ _ 66 [_, _, _, _] [] _
    refine ab_go ok_Mo_tellLaw 1 rfl ?_
    show ab_Z m_Mo_tellLaw _ _ _ 8 [_, _, _, _] [] _
    exact b8 s2 b (keep k1 k2) hR2 ((k2 81 36 (by omega)).trans h36) hb0 hb1
  have b61 : ∀ s1 b, KB c0 ce b0 be s s1 → RdM s1 K P (.inr e) → s1 81 36 = nI b → b0 ≤ b → b + 1 < be → ab_Z m_Mo_tellLaw (d + 5) (0, 0) Po 61 [some (.ref 81), some (.int k), some (.int f), some (.int z)] [] (HA fm X s1 t) := by
    intro s1 b k1 hR h36 hb0 hb1
    refine ab_go ok_Mo_tellLaw 1 rfl ?_
    show ab_Z m_Mo_tellLaw _ _ _ 62 [_, _, _, _] [_] _
    refine ab_cl ok_Mo_tellLaw rfl [_] [] rfl ⟨_, _, rfl, rfl, Or.inl ⟨_, _, rfl, rfl⟩⟩ (Nat.le_of_ble_eq_true rfl) (t_Mo_term d fm X _ t (k1.T hT) (c0 := c0) he hR (fun n hn => by cases hn) (b := b) h36 (by omega)) ?_
    rintro _ _ ⟨rfl, s2, rfl, k3, h36', -, hR3, -⟩
    show ab_Z m_Mo_tellLaw _ _ _ 63 [_, _, _, _] [] _
    exact b63 s2 (b + 1) (k1.tr (k3.mo (Nat.le_refl _) hb0 (by omega))) hR3 h36' (by omega) hb1
  have b58 : ∀ s1 b, KB c0 ce b0 be s s1 → RdM s1 K P (.inr e) → s1 81 36 = nI b → b0 ≤ b → b + 1 < be → ab_Z m_Mo_tellLaw (d + 5) (0, 0) Po 58 [some (.ref 81), some (.int k), some (.int f), some (.int z)] [] (HA fm X s1 t) := by
    intro s1 b k1 hR h36 hb0 hb1
    refine ab_go ok_Mo_tellLaw 2 rfl ?_
    show ab_Z m_Mo_tellLaw _ _ _ 60 [_, _, _, _] [_, _] _
    refine ab_cl ok_Mo_tellLaw rfl [_, _] [] rfl ⟨_, _, rfl, rfl, Or.inl ⟨_, _, rfl, rfl⟩⟩ (Nat.le_of_ble_eq_true rfl) (t_Mo_must (d + 2) fm X s1 t (k1.T hT) hR (w := 266) (by decide) (by decide) _ rfl) ?_
    rintro _ _ ⟨rfl, s2, rfl, k2, hR2⟩
    show ab_Z m_Mo_tellLaw _ _ _ 61 [_, _, _, _] [] _
    exact b61 s2 b (keep k1 k2) hR2 ((k2 81 36 (by omega)).trans h36) hb0 hb1
  have b46 : ∀ s1 b, KB c0 ce b0 be s s1 → RdM s1 K P (.inr e) → s1 81 36 = nI b → b0 ≤ b → b + 1 < be → ab_Z m_Mo_tellLaw (d + 5) (0, 0) Po 46 [some (.ref 81), some (.int k), some (.int f), some (.int z)] [] (HA fm X s1 t) := by
    intro s1 b k1 hR h36 hb0 hb1
    refine ab_go ok_Mo_tellLaw 6 rfl ?_
    show ab_Z m_Mo_tellLaw _ _ _ 52 [_, _, _, _] [_, _, _] _
    rw [h36]
    refine ab_is ok_Mo_tellLaw rfl rfl (k := b) (by first | rfl | (simp only [LL1, LL2, LL3, LL4, LL5, LL6, LL7, LL8, LL10, LL15, LL18, LL20, LL21, LL22, LL23, LL24, LL32, LL39, LL40, LL130, LL420, pk_mul, nI_add]; done) | (simp only [LL1, LL2, LL3, LL4, LL5, LL6, LL7, LL8, LL10, LL15, LL18, LL20, LL21, LL22, LL23, LL24, LL32, LL39, LL40, LL130, LL420, pk_mul, nI_add]; congr 1; omega)) (by omega) (Nat.le_of_ble_eq_true rfl) ?_
    show ab_Z m_Mo_tellLaw _ _ _ 53 [_, _, _, _] [] _
    refine ab_go ok_Mo_tellLaw 2 rfl ?_
    show ab_Z m_Mo_tellLaw _ _ _ 55 [_, _, _, _] [_] _
    have k2 := k1.u (x := s1 81 42) (c := 106) (j := b) (by omega)
    have hR2 := hR.of (s' := ab_up s1 106 b (s1 81 42)) (by rw [ab_up_o (by decide)]) (by rw [ab_up_o (by decide)]) (by rw [ab_up_o (by decide)])
    rw [hR2.1]
    refine ab_br ok_Mo_tellLaw rfl rfl ?_ ?_
    · intro h1
      show ab_Z m_Mo_tellLaw _ _ _ 56 [_, _, _, _] [] _
      exact absurd h1 (fl_1 hR2.2.2.1).1
    · intro h1
      show ab_Z m_Mo_tellLaw _ _ _ 58 [_, _, _, _] [] _
      exact b58 _ b k2 hR2 (by rw [ab_up_o (by decide)]; exact h36) hb0 hb1
  have b43 : ∀ s1 b, KB c0 ce b0 be s s1 → RdM s1 K P (.inr e) → s1 81 36 = nI b → b0 ≤ b → b + 1 < be → ab_Z m_Mo_tellLaw (d + 5) (0, 0) Po 43 [some (.ref 81), some (.int k), some (.int f), some (.int z)] [] (HA fm X s1 t) := by
    intro s1 b k1 hR h36 hb0 hb1
    refine ab_go ok_Mo_tellLaw 2 rfl ?_
    show ab_Z m_Mo_tellLaw _ _ _ 45 [_, _, _, _] [_, _] _
    refine ab_cl ok_Mo_tellLaw rfl [_, _] [] rfl ⟨_, _, rfl, rfl, Or.inl ⟨_, _, rfl, rfl⟩⟩ (Nat.le_of_ble_eq_true rfl) (t_Mo_must (d + 2) fm X s1 t (k1.T hT) hR (w := 60) (by decide) (by decide) _ rfl) ?_
    rintro _ _ ⟨rfl, s2, rfl, k2, hR2⟩
    show ab_Z m_Mo_tellLaw _ _ _ 46 [_, _, _, _] [] _
    exact b46 s2 b (keep k1 k2) hR2 ((k2 81 36 (by omega)).trans h36) hb0 hb1
  refine ⟨?_, b43, b46, b58, b61, b63, b8, b75⟩
  intro s1 b k1 hR h36 hb0 hb1
  refine ab_go ok_Mo_tellLaw 5 rfl ?_
  show ab_Z m_Mo_tellLaw _ _ _ 33 [_, _, _, _] [_, _, _] _
  rw [h36]
  first | (refine ab_bs1 ok_Mo_tellLaw rfl rfl (k := b) (by first | rfl | (simp only [LL1, LL2, LL3, LL4, LL5, LL6, LL7, LL8, LL10, LL15, LL18, LL20, LL21, LL22, LL23, LL24, LL32, LL39, LL40, LL130, LL420, pk_mul, nI_add]; done) | (simp only [LL1, LL2, LL3, LL4, LL5, LL6, LL7, LL8, LL10, LL15, LL18, LL20, LL21, LL22, LL23, LL24, LL32, LL39, LL40, LL130, LL420, pk_mul, nI_add]; congr 1; omega)) (by omega) (Nat.le_of_ble_eq_true rfl) ?_) | (refine ab_bs2 ok_Mo_tellLaw rfl rfl (k := b) (by first | rfl | (simp only [LL1, LL2, LL3, LL4, LL5, LL6, LL7, LL8, LL10, LL15, LL18, LL20, LL21, LL22, LL23, LL24, LL32, LL39, LL40, LL130, LL420, pk_mul, nI_add]; done) | (simp only [LL1, LL2, LL3, LL4, LL5, LL6, LL7, LL8, LL10, LL15, LL18, LL20, LL21, LL22, LL23, LL24, LL32, LL39, LL40, LL130, LL420, pk_mul, nI_add]; congr 1; omega)) (by omega) (Nat.le_of_ble_eq_true rfl) ?_)
  show ab_Z m_Mo_tellLaw _ _ _ 34 [_, _, _, _] [] _
  refine ab_go ok_Mo_tellLaw 6 rfl ?_
  show ab_Z m_Mo_tellLaw _ _ _ 40 [_, _, _, _] [_, _, _] _
  have k2 := k1.u (x := 1 &&& 1) (c := 104) (j := b) (by omega)
  rw [show ab_up s1 104 b (1 &&& 1) 81 36 = nI b from by rw [ab_up_o (by decide)]; exact h36]
  refine ab_is ok_Mo_tellLaw rfl rfl (k := b) (by first | rfl | (simp only [LL1, LL2, LL3, LL4, LL5, LL6, LL7, LL8, LL10, LL15, LL18, LL20, LL21, LL22, LL23, LL24, LL32, LL39, LL40, LL130, LL420, pk_mul, nI_add]; done) | (simp only [LL1, LL2, LL3, LL4, LL5, LL6, LL7, LL8, LL10, LL15, LL18, LL20, LL21, LL22, LL23, LL24, LL32, LL39, LL40, LL130, LL420, pk_mul, nI_add]; congr 1; omega)) (by omega) (Nat.le_of_ble_eq_true rfl) ?_
  show ab_Z m_Mo_tellLaw _ _ _ 41 [_, _, _, _] [] _
  refine ab_go ok_Mo_tellLaw 1 rfl ?_
  show ab_Z m_Mo_tellLaw _ _ _ 42 [_, _, _, _] [_] _
  have k3 := k2.u (x := ab_up s1 104 b (1 &&& 1) 81 42) (c := 105) (j := b) (by omega)
  have hR3 := hR.of (s' := ab_up (ab_up s1 104 b (1 &&& 1)) 105 b (ab_up s1 104 b (1 &&& 1) 81 42)) (by rw [ab_up_o (by decide), ab_up_o (by decide)]) (by rw [ab_up_o (by decide), ab_up_o (by decide)]) (by rw [ab_up_o (by decide), ab_up_o (by decide)])
  refine ab_cl ok_Mo_tellLaw rfl [_] [] rfl ⟨_, _, rfl, rfl, Or.inl ⟨_, _, rfl, rfl⟩⟩ (Nat.le_of_ble_eq_true rfl) (t_Mo_expression (d + 1) fm X _ t (k3.T hT) (c0 := c0) he hR3 (fun n hn => by cases hn)) ?_
  rintro _ _ ⟨rfl, s2, rfl, k4, hR4, -⟩
  show ab_Z m_Mo_tellLaw _ _ _ 43 [_, _, _, _] [] _
  exact b43 s2 b (k3.tr k4.b) hR4 ((k4 81 36 (by omega) (by omega) (by omega)).trans (by rw [ab_up_o (by decide), ab_up_o (by decide)]; exact h36)) hb0 hb1
end

