/-! the reference's laws -/
def w0 (c k : Nat) : Bool := c == 113 || (c == 81 && k == 49)
theorem Kr.m01 {a b : Nat → Nat → Int32} (h : Kr w0 a b) : Kr w1 a b := fun x k p => h x k (by unfold w1 at p; unfold w0; simp only [Bool.or_eq_false_iff] at p ⊢; exact ⟨p.1.2, p.2⟩)
def cdA (s : Nat → Nat → Int32) (x : Nat) (Q : List Ins) : Prop := x + Q.length ≤ 840 ∧ (∀ j q, Q[j]? = some q → s 109 (x + j) = nI q.1 ∧ s 110 (x + j) = nI q.2) ∧ okQ Q 0
def RBr (s : Nat → Nat → Int32) : Nat → Nat → List (List Ins) → Prop
  | b, 0, P => ∃ c x, P = [c] ∧ s 104 b = 0 ∧ s 107 b = nI x ∧ s 108 b = nI (x + c.length) ∧ cdA s x c
  | b, n + 1, P => ∃ a e c P' x, P = a :: e :: c :: P' ∧ s 104 b = 1 ∧ s 105 b = nI x ∧ s 106 b = nI (x + a.length) ∧ s 107 b = nI (x + a.length + e.length) ∧ s 108 b = nI (x + a.length + e.length + c.length) ∧ cdA s x a ∧ cdA s (x + a.length) e ∧ cdA s (x + a.length + e.length) c ∧ RBr s (b + 1) n P'
def RLaw (s : Nat → Nat → Int32) (q : Nat) (P pl : List (List Ins)) : Prop := (s 102 q = s 103 q ∧ P = pl) ∨ ∃ f n, s 102 q = nI f ∧ s 103 q = nI (f + (n + 1)) ∧ f + (n + 1) ≤ 260 ∧ RBr s f n P
theorem cdA_e {s s' : Nat → Nat → Int32} (h1 : s' 109 = s 109) (h2 : s' 110 = s 110) {x : Nat} {Q : List Ins} (h : cdA s x Q) : cdA s' x Q := by
  unfold cdA
  rw [h1, h2]
  exact h
theorem RBr_e {s s' : Nat → Nat → Int32} (h : ∀ c, 104 ≤ c → c ≤ 110 → s' c = s c) : ∀ (n b : Nat) (P : List (List Ins)), RBr s b n P → RBr s' b n P
  | 0, b, P, hB => by
    obtain ⟨c, x, e1, e2, e3, e4, e5⟩ := hB
    exact ⟨c, x, e1, by rw [h 104 (by decide) (by decide)]; exact e2, by rw [h 107 (by decide) (by decide)]; exact e3, by rw [h 108 (by decide) (by decide)]; exact e4, cdA_e (h 109 (by decide) (by decide)) (h 110 (by decide) (by decide)) e5⟩
  | n + 1, b, P, hB => by
    obtain ⟨a, e, c, P', x, e1, e2, e3, e4, e5, e6, e7, e8, e9, e10⟩ := hB
    have g9 := h 109 (by decide) (by decide)
    have g0 := h 110 (by decide) (by decide)
    exact ⟨a, e, c, P', x, e1, by rw [h 104 (by decide) (by decide)]; exact e2, by rw [h 105 (by decide) (by decide)]; exact e3, by rw [h 106 (by decide) (by decide)]; exact e4, by rw [h 107 (by decide) (by decide)]; exact e5, by rw [h 108 (by decide) (by decide)]; exact e6, cdA_e g9 g0 e7, cdA_e g9 g0 e8, cdA_e g9 g0 e9, RBr_e h n (b + 1) P' e10⟩
theorem RLaw_e {s s' : Nat → Nat → Int32} (h : ∀ c, 102 ≤ c → c ≤ 110 → s' c = s c) {q : Nat} {P pl : List (List Ins)} (hL : RLaw s q P pl) : RLaw s' q P pl := by
  rcases hL with ⟨a, b⟩ | ⟨f, n, a, b, c, e⟩
  · exact Or.inl ⟨by rw [h 102 (by decide) (by decide), h 103 (by decide) (by decide)]; exact a, b⟩
  · exact Or.inr ⟨f, n, by rw [h 102 (by decide) (by decide)]; exact a, by rw [h 103 (by decide) (by decide)]; exact b, c, RBr_e (fun x p q => h x (by omega) q) n f P e⟩
theorem RLaw.k {s s' : Nat → Nat → Int32} (h : Kr w4 s s') {q : Nat} {P pl : List (List Ins)} (hL : RLaw s q P pl) : RLaw s' q P pl := RLaw_e (fun c p q => funext fun k => h c k (by
  have e : ∀ n, n ≠ c → (c == n) = false := fun n hn => beq_false_of_ne (fun z => hn z.symm)
  unfold w4 w3 w2 w1
  rw [e 112 (by omega), e 113 (by omega), e 81 (by omega), e 116 (by omega), e 115 (by omega), e 117 (by omega), e 118 (by omega), e 120 (by omega), e 121 (by omega), e 122 (by omega), e 123 (by omega)]
  rfl)) hL
theorem RBr_ne {s : Nat → Nat → Int32} : ∀ {n b : Nat} {P : List (List Ins)}, RBr s b n P → ∃ x r, P = x :: r
  | 0, b, P, h => by obtain ⟨c, x, rfl, -⟩ := h; exact ⟨c, [], rfl⟩
  | n + 1, b, P, h => by obtain ⟨a, e, c, P', x, rfl, -⟩ := h; exact ⟨a, _, rfl⟩
theorem runI_tr (v : Nat → Int32) : ∀ (Q : List Ins) (z : Stk), z.2.2 = true → (runI v z Q).2.2 = true
  | [], z, h => h
  | (k, n) :: Q, z, h => by
    refine runI_tr v Q (stpI v z (k, n)) ?_
    match k with
    | 0 => exact h
    | 1 => exact h
    | k + 2 => show (z.2.2 || _) = true; rw [h]; rfl
theorem runI_tk (v : Nat → Int32) (z : Stk) (Q : List Ins) (j : Nat) (h : (runI v z (Q.take j)).2.2 = true) : (runI v z Q).2.2 = true := by
  have e : runI v z Q = runI v (runI v z (Q.take j)) (Q.drop j) := by
    unfold runI
    rw [← List.foldl_append, List.take_append_drop]
  rw [e]
  exact runI_tr v _ _ h
theorem ro_up (s : Nat → Nat → Int32) (c : Nat) (f : Nat → Int32) (k : Nat) (v : Int32) : ab_up (ab_ro s c f) c k v = ab_ro s c (upd f k v) := by
  funext x j
  by_cases h : x = c
  · subst h
    rw [ab_up_c, ab_ro_c, ab_ro_c]
    rfl
  · rw [ab_up_o h, ab_ro_o h, ab_ro_o h]
theorem ro_id (s : Nat → Nat → Int32) (c : Nat) : ab_ro s c (s c) = s := by
  funext x
  by_cases h : x = c
  · subst h; rw [ab_ro_c]
  · rw [ab_ro_o h]
section
variable (d : Nat) (fm : Value) (X : Nat × (Nat → Int32)) (s : Nat → Nat → Int32) (t : Nat → Nat → Int64)
theorem t_Mo_termOf {a z : Nat} {Q : List Ins} (hc : cdA s a Q) (hz : z = a + Q.length) : ab_T g_Mo_termOf d (0, 0) [.ref 81, .int (nI a), .int (nI z)] (HA fm X s t) (fun v h => v = some (.int (finQ (s 112) Q)) ∧ ∃ s', h = HA fm X s' t ∧ Kr w0 s s' ∧ s' 81 49 = if (evQ (s 112) Q).2 then 1 else s 81 49) := by
  obtain ⟨h84, hQ, hok⟩ := hc
  subst hz
  generalize hPo : (fun v h => v = some (.int (finQ (s 112) Q)) ∧ ∃ s', h = HA fm X s' t ∧ Kr w0 s s' ∧ s' 81 49 = if (evQ (s 112) Q).2 then 1 else s 81 49 : Option Value → ab_H → Prop) = Po
  obtain ⟨ev1, ev2⟩ := runI_ev (s 112) Q (s 113) false hok
  rw [Bool.false_or] at ev2
  refine ab_T_of (M := m_Mo_termOf) rfl rfl (Nat.le_of_ble_eq_true rfl) ?_
  show ab_Z m_Mo_termOf _ _ _ 0 [_, _, _, _, _, _, _, _] [] _
  refine ab_go ok_Mo_termOf 4 rfl ?_
  show ab_Z m_Mo_termOf _ _ _ 4 [_, _, _, _, _, _, _, _] [] _
  have := lp_dn Q.length (fun j => (runI (s 112) (s 113, 0, false) (Q.take j)).2.2 = false → ab_Z m_Mo_termOf d (0, 0) Po 4 [some (.ref 81), none, some (.int (nI (a + Q.length))), some (.int (nI (runI (s 112) (s 113, 0, false) (Q.take j)).2.1)), some (.int (nI (a + j))), none, none, none] [] (HA fm X (ab_ro s 113 (runI (s 112) (s 113, 0, false) (Q.take j)).1) t)) ?_ ?_ rfl
  · rw [show (runI (s 112) (s 113, 0, false) (Q.take 0)) = (s 113, 0, false) from rfl] at this
    dsimp only at this
    rw [ro_id] at this
    exact this
  · intro hb
    rw [List.take_length] at hb ⊢
    refine ab_go ok_Mo_termOf 2 rfl ?_
    show ab_Z m_Mo_termOf _ _ _ 6 [_, _, _, _, _, _, _, _] [_, _] _
    refine ab_br ok_Mo_termOf rfl rfl ?_ ?_
    · intro h1
      show ab_Z m_Mo_termOf _ _ _ 90 [_, _, _, _, _, _, _, _] [] _
      refine ab_go ok_Mo_termOf 3 rfl ?_
      show ab_Z m_Mo_termOf _ _ _ 93 [_, _, _, _, _, _, _, _] [_, _] _
      refine ab_go ok_Mo_termOf 1 rfl ?_
      show ab_Z m_Mo_termOf _ _ _ 94 [_, _, _, _, _, _, _, _] [_] _
      have fin : Po (some (.int ((runI (s 112) (s 113, 0, false) Q).1 0))) (HA fm X (ab_ro s 113 (runI (s 112) (s 113, 0, false) Q).1) t) := by
        rw [← hPo]
        rw [hb] at ev2
        refine ⟨by unfold finQ; rw [← ev2, ← ev1]; rfl, _, rfl, Kr.ro (fun k => rfl) (Kr.rf w0 s), ?_⟩
        rw [← ev2, ab_ro_o (by decide)]
        rfl
      exact ab_rI ok_Mo_termOf rfl (fin)
    · intro h1
      show ab_Z m_Mo_termOf _ _ _ 7 [_, _, _, _, _, _, _, _] [] _
      exact absurd (lp_out _) h1
  · intro j hj ih hb
    obtain ⟨q, hq⟩ : ∃ q, Q[j]? = some q := ⟨Q[j], List.getElem?_eq_getElem hj⟩
    have hoj := okQ_at (s 112) Q (s 113, 0, false) hok j q hq
    have hbr := runI_tk (s 112) (s 113, 0, false) Q (j + 1)
    rw [runI_succ (s 112) _ Q hq] at ih hbr
    rw [← Nat.add_assoc, nI_succ] at ih
    obtain ⟨q1, q2⟩ := hQ j q hq
    generalize runI (s 112) (s 113, 0, false) (List.take j Q) = y at ih hoj hb hbr ⊢
    refine ab_go ok_Mo_termOf 2 rfl ?_
    show ab_Z m_Mo_termOf _ _ _ 6 [_, _, _, _, _, _, _, _] [_, _] _
    refine ab_br ok_Mo_termOf rfl rfl ?_ ?_
    · intro h1
      show ab_Z m_Mo_termOf _ _ _ 90 [_, _, _, _, _, _, _, _] [] _
      exact absurd h1 (lp_in (by omega) (by omega))
    · intro h1
      show ab_Z m_Mo_termOf _ _ _ 7 [_, _, _, _, _, _, _, _] [] _
      refine ab_go ok_Mo_termOf 3 rfl ?_
      show ab_Z m_Mo_termOf _ _ _ 10 [_, _, _, _, _, _, _, _] [_, _] _
      refine ab_ia ok_Mo_termOf rfl rfl (k := (a + j)) (by first | rfl | (simp only [LL1, LL2, LL3, LL4, LL5, LL6, LL7, LL8, LL10, LL15, LL18, LL20, LL21, LL22, LL23, LL24, LL32, LL39, LL40, LL130, LL420, pk_mul, nI_add]; done) | (simp only [LL1, LL2, LL3, LL4, LL5, LL6, LL7, LL8, LL10, LL15, LL18, LL20, LL21, LL22, LL23, LL24, LL32, LL39, LL40, LL130, LL420, pk_mul, nI_add]; congr 1; omega)) (by omega) (Nat.le_of_ble_eq_true rfl) ?_
      show ab_Z m_Mo_termOf _ _ _ 11 [_, _, _, _, _, _, _, _] [_] _
      rw [show ab_ro s 113 y.1 109 (a + j) = nI q.1 from q1]
      refine ab_go ok_Mo_termOf 3 rfl ?_
      show ab_Z m_Mo_termOf _ _ _ 14 [_, _, _, _, _, _, _, _] [_, _] _
      obtain ⟨k, n⟩ := q
      have hk3 : k = 0 ∨ k = 1 ∨ ∃ k2, k = k2 + 2 := by
        rcases Nat.lt_or_ge k 2 with h9 | h9
        · omega
        · exact Or.inr (Or.inr ⟨k - 2, by omega⟩)
      rcases hk3 with rfl | rfl | ⟨k, rfl⟩
      · obtain ⟨o1, o2⟩ := hoj
        refine ab_go ok_Mo_termOf 1 rfl ?_
        show ab_Z m_Mo_termOf _ _ _ 15 [_, _, _, _, _, _, _, _] [] _
        refine ab_go ok_Mo_termOf 4 rfl ?_
        show ab_Z m_Mo_termOf _ _ _ 19 [_, _, _, _, _, _, _, _] [_, _, _] _
        refine ab_go ok_Mo_termOf 1 rfl ?_
        show ab_Z m_Mo_termOf _ _ _ 20 [_, _, _, _, _, _, _, _] [_, _] _
        refine ab_go ok_Mo_termOf 3 rfl ?_
        show ab_Z m_Mo_termOf _ _ _ 23 [_, _, _, _, _, _, _, _] [_, _, _, _] _
        refine ab_ia ok_Mo_termOf rfl rfl (k := (a + j)) (by first | rfl | (simp only [LL1, LL2, LL3, LL4, LL5, LL6, LL7, LL8, LL10, LL15, LL18, LL20, LL21, LL22, LL23, LL24, LL32, LL39, LL40, LL130, LL420, pk_mul, nI_add]; done) | (simp only [LL1, LL2, LL3, LL4, LL5, LL6, LL7, LL8, LL10, LL15, LL18, LL20, LL21, LL22, LL23, LL24, LL32, LL39, LL40, LL130, LL420, pk_mul, nI_add]; congr 1; omega)) (by omega) (Nat.le_of_ble_eq_true rfl) ?_
        show ab_Z m_Mo_termOf _ _ _ 24 [_, _, _, _, _, _, _, _] [_, _, _] _
        rw [show ab_ro s 113 y.1 110 (a + j) = nI n from q2]
        refine ab_go ok_Mo_termOf 1 rfl ?_
        show ab_Z m_Mo_termOf _ _ _ 32 [_, _, _, _, _, _, _, _] [_, _, _] _
        refine ab_is ok_Mo_termOf rfl rfl (k := y.2.1) (by first | rfl | (simp only [LL1, LL2, LL3, LL4, LL5, LL6, LL7, LL8, LL10, LL15, LL18, LL20, LL21, LL22, LL23, LL24, LL32, LL39, LL40, LL130, LL420, pk_mul, nI_add]; done) | (simp only [LL1, LL2, LL3, LL4, LL5, LL6, LL7, LL8, LL10, LL15, LL18, LL20, LL21, LL22, LL23, LL24, LL32, LL39, LL40, LL130, LL420, pk_mul, nI_add]; congr 1; omega)) (by omega) (Nat.le_of_ble_eq_true rfl) ?_
        show ab_Z m_Mo_termOf _ _ _ 33 [_, _, _, _, _, _, _, _] [] _
        rw [ro_up]
        refine ab_go ok_Mo_termOf 4 rfl ?_
        show ab_Z m_Mo_termOf _ _ _ 4 [_, _, _, _, _, _, _, _] [] _
        rw [show stpI (s 112) y (0, n) = (upd y.1 y.2.1 (nI n), y.2.1 + 1, y.2.2) from rfl] at ih
        dsimp only at ih
        rw [nI_succ y.2.1] at ih
        exact ih hb
      · obtain ⟨o1, o2⟩ := hoj
        refine ab_go ok_Mo_termOf 1 rfl ?_
        show ab_Z m_Mo_termOf _ _ _ 15 [_, _, _, _, _, _, _, _] [] _
        refine ab_go ok_Mo_termOf 4 rfl ?_
        show ab_Z m_Mo_termOf _ _ _ 19 [_, _, _, _, _, _, _, _] [_, _, _] _
        refine ab_go ok_Mo_termOf 1 rfl ?_
        show ab_Z m_Mo_termOf _ _ _ 25 [_, _, _, _, _, _, _, _] [_, _] _
        refine ab_go ok_Mo_termOf 5 rfl ?_
        show ab_Z m_Mo_termOf _ _ _ 30 [_, _, _, _, _, _, _, _] [_, _, _, _, _] _
        refine ab_ia ok_Mo_termOf rfl rfl (k := (a + j)) (by first | rfl | (simp only [LL1, LL2, LL3, LL4, LL5, LL6, LL7, LL8, LL10, LL15, LL18, LL20, LL21, LL22, LL23, LL24, LL32, LL39, LL40, LL130, LL420, pk_mul, nI_add]; done) | (simp only [LL1, LL2, LL3, LL4, LL5, LL6, LL7, LL8, LL10, LL15, LL18, LL20, LL21, LL22, LL23, LL24, LL32, LL39, LL40, LL130, LL420, pk_mul, nI_add]; congr 1; omega)) (by omega) (Nat.le_of_ble_eq_true rfl) ?_
        show ab_Z m_Mo_termOf _ _ _ 31 [_, _, _, _, _, _, _, _] [_, _, _, _] _
        rw [show ab_ro s 113 y.1 110 (a + j) = nI n from q2]
        refine ab_ia ok_Mo_termOf rfl rfl (k := n) (by first | rfl | (simp only [LL1, LL2, LL3, LL4, LL5, LL6, LL7, LL8, LL10, LL15, LL18, LL20, LL21, LL22, LL23, LL24, LL32, LL39, LL40, LL130, LL420, pk_mul, nI_add]; done) | (simp only [LL1, LL2, LL3, LL4, LL5, LL6, LL7, LL8, LL10, LL15, LL18, LL20, LL21, LL22, LL23, LL24, LL32, LL39, LL40, LL130, LL420, pk_mul, nI_add]; congr 1; omega)) (by omega) (Nat.le_of_ble_eq_true rfl) ?_
        show ab_Z m_Mo_termOf _ _ _ 32 [_, _, _, _, _, _, _, _] [_, _, _] _
        rw [show ab_ro s 113 y.1 112 n = s 112 n from rfl]
        refine ab_is ok_Mo_termOf rfl rfl (k := y.2.1) (by first | rfl | (simp only [LL1, LL2, LL3, LL4, LL5, LL6, LL7, LL8, LL10, LL15, LL18, LL20, LL21, LL22, LL23, LL24, LL32, LL39, LL40, LL130, LL420, pk_mul, nI_add]; done) | (simp only [LL1, LL2, LL3, LL4, LL5, LL6, LL7, LL8, LL10, LL15, LL18, LL20, LL21, LL22, LL23, LL24, LL32, LL39, LL40, LL130, LL420, pk_mul, nI_add]; congr 1; omega)) (by omega) (Nat.le_of_ble_eq_true rfl) ?_
        show ab_Z m_Mo_termOf _ _ _ 33 [_, _, _, _, _, _, _, _] [] _
        rw [ro_up]
        refine ab_go ok_Mo_termOf 4 rfl ?_
        show ab_Z m_Mo_termOf _ _ _ 4 [_, _, _, _, _, _, _, _] [] _
        rw [show stpI (s 112) y (1, n) = (upd y.1 y.2.1 (s 112 n), y.2.1 + 1, y.2.2) from rfl] at ih
        dsimp only at ih
        rw [nI_succ y.2.1] at ih
        exact ih hb
      · obtain ⟨o1, o3, o2⟩ := hoj
        have e1 : stpI (s 112) y (k + 2, n) = (upd y.1 (y.2.1 - 2) (opF (k + 2) (y.1 (y.2.1 - 2)) (y.1 (y.2.1 - 1))), y.2.1 - 1, y.2.2 || (decide (4 < k + 2) && decide (y.1 (y.2.1 - 1) = 0))) := rfl
        rw [e1] at ih hbr
        dsimp only at ih hbr
        rw [hb, Bool.false_or] at ih hbr
        have hk : k = 0 ∨ k = 1 ∨ k = 2 ∨ k = 3 := by omega
        rcases hk with rfl | rfl | rfl | rfl
        · refine ab_go ok_Mo_termOf 1 rfl ?_
          show ab_Z m_Mo_termOf _ _ _ 35 [_, _, _, _, _, _, _, _] [] _
          refine ab_go ok_Mo_termOf 6 rfl ?_
          show ab_Z m_Mo_termOf _ _ _ 41 [_, _, _, _, _, _, _, _] [_, _] _
          rw [sb_m1 (show 0 < y.2.1 by omega)]
          refine ab_ia ok_Mo_termOf rfl rfl (k := (y.2.1 - 2)) (by rw [nI_sub1 (by omega)]; rfl) (by omega) (Nat.le_of_ble_eq_true rfl) ?_
          show ab_Z m_Mo_termOf _ _ _ 42 [_, _, _, _, _, _, _, _] [_] _
          refine ab_go ok_Mo_termOf 4 rfl ?_
          show ab_Z m_Mo_termOf _ _ _ 46 [_, _, _, _, _, _, _, _] [_, _] _
          refine ab_ia ok_Mo_termOf rfl rfl (k := (y.2.1 - 1)) (by first | rfl | (simp only [LL1, LL2, LL3, LL4, LL5, LL6, LL7, LL8, LL10, LL15, LL18, LL20, LL21, LL22, LL23, LL24, LL32, LL39, LL40, LL130, LL420, pk_mul, nI_add]; done) | (simp only [LL1, LL2, LL3, LL4, LL5, LL6, LL7, LL8, LL10, LL15, LL18, LL20, LL21, LL22, LL23, LL24, LL32, LL39, LL40, LL130, LL420, pk_mul, nI_add]; congr 1; omega)) (by omega) (Nat.le_of_ble_eq_true rfl) ?_
          show ab_Z m_Mo_termOf _ _ _ 47 [_, _, _, _, _, _, _, _] [_] _
          refine ab_go ok_Mo_termOf 3 rfl ?_
          show ab_Z m_Mo_termOf _ _ _ 50 [_, _, _, _, _, _, _, _] [_, _] _
          refine ab_go ok_Mo_termOf 1 rfl ?_
          show ab_Z m_Mo_termOf _ _ _ 58 [_, _, _, _, _, _, _, _] [] _
          refine ab_go ok_Mo_termOf 7 rfl ?_
          show ab_Z m_Mo_termOf _ _ _ 65 [_, _, _, _, _, _, _, _] [_, _, _, _] _
          refine ab_go ok_Mo_termOf 1 rfl ?_
          show ab_Z m_Mo_termOf _ _ _ 66 [_, _, _, _, _, _, _, _] [_, _] _
          refine ab_go ok_Mo_termOf 4 rfl ?_
          show ab_Z m_Mo_termOf _ _ _ 87 [_, _, _, _, _, _, _, _] [_, _, _] _
          refine ab_is ok_Mo_termOf rfl rfl (k := (y.2.1 - 2)) (by rw [nI_sub1 (by omega)]; rfl) (by omega) (Nat.le_of_ble_eq_true rfl) ?_
          show ab_Z m_Mo_termOf _ _ _ 88 [_, _, _, _, _, _, _, _] [] _
          rw [ro_up]
          refine ab_go ok_Mo_termOf 2 rfl ?_
          show ab_Z m_Mo_termOf _ _ _ 4 [_, _, _, _, _, _, _, _] [] _
          exact ih rfl
        · refine ab_go ok_Mo_termOf 1 rfl ?_
          show ab_Z m_Mo_termOf _ _ _ 35 [_, _, _, _, _, _, _, _] [] _
          refine ab_go ok_Mo_termOf 6 rfl ?_
          show ab_Z m_Mo_termOf _ _ _ 41 [_, _, _, _, _, _, _, _] [_, _] _
          rw [sb_m1 (show 0 < y.2.1 by omega)]
          refine ab_ia ok_Mo_termOf rfl rfl (k := (y.2.1 - 2)) (by rw [nI_sub1 (by omega)]; rfl) (by omega) (Nat.le_of_ble_eq_true rfl) ?_
          show ab_Z m_Mo_termOf _ _ _ 42 [_, _, _, _, _, _, _, _] [_] _
          refine ab_go ok_Mo_termOf 4 rfl ?_
          show ab_Z m_Mo_termOf _ _ _ 46 [_, _, _, _, _, _, _, _] [_, _] _
          refine ab_ia ok_Mo_termOf rfl rfl (k := (y.2.1 - 1)) (by first | rfl | (simp only [LL1, LL2, LL3, LL4, LL5, LL6, LL7, LL8, LL10, LL15, LL18, LL20, LL21, LL22, LL23, LL24, LL32, LL39, LL40, LL130, LL420, pk_mul, nI_add]; done) | (simp only [LL1, LL2, LL3, LL4, LL5, LL6, LL7, LL8, LL10, LL15, LL18, LL20, LL21, LL22, LL23, LL24, LL32, LL39, LL40, LL130, LL420, pk_mul, nI_add]; congr 1; omega)) (by omega) (Nat.le_of_ble_eq_true rfl) ?_
          show ab_Z m_Mo_termOf _ _ _ 47 [_, _, _, _, _, _, _, _] [_] _
          refine ab_go ok_Mo_termOf 3 rfl ?_
          show ab_Z m_Mo_termOf _ _ _ 50 [_, _, _, _, _, _, _, _] [_, _] _
          refine ab_go ok_Mo_termOf 1 rfl ?_
          show ab_Z m_Mo_termOf _ _ _ 58 [_, _, _, _, _, _, _, _] [] _
          refine ab_go ok_Mo_termOf 7 rfl ?_
          show ab_Z m_Mo_termOf _ _ _ 65 [_, _, _, _, _, _, _, _] [_, _, _, _] _
          refine ab_go ok_Mo_termOf 1 rfl ?_
          show ab_Z m_Mo_termOf _ _ _ 70 [_, _, _, _, _, _, _, _] [_, _] _
          refine ab_go ok_Mo_termOf 2 rfl ?_
          show ab_Z m_Mo_termOf _ _ _ 72 [_, _, _, _, _, _, _, _] [_, _, _, _] _
          refine ab_go ok_Mo_termOf 1 rfl ?_
          show ab_Z m_Mo_termOf _ _ _ 73 [_, _, _, _, _, _, _, _] [_, _] _
          refine ab_go ok_Mo_termOf 4 rfl ?_
          show ab_Z m_Mo_termOf _ _ _ 87 [_, _, _, _, _, _, _, _] [_, _, _] _
          refine ab_is ok_Mo_termOf rfl rfl (k := (y.2.1 - 2)) (by rw [nI_sub1 (by omega)]; rfl) (by omega) (Nat.le_of_ble_eq_true rfl) ?_
          show ab_Z m_Mo_termOf _ _ _ 88 [_, _, _, _, _, _, _, _] [] _
          rw [ro_up]
          refine ab_go ok_Mo_termOf 2 rfl ?_
          show ab_Z m_Mo_termOf _ _ _ 4 [_, _, _, _, _, _, _, _] [] _
          exact ih rfl
        · refine ab_go ok_Mo_termOf 1 rfl ?_
          show ab_Z m_Mo_termOf _ _ _ 35 [_, _, _, _, _, _, _, _] [] _
          refine ab_go ok_Mo_termOf 6 rfl ?_
          show ab_Z m_Mo_termOf _ _ _ 41 [_, _, _, _, _, _, _, _] [_, _] _
          rw [sb_m1 (show 0 < y.2.1 by omega)]
          refine ab_ia ok_Mo_termOf rfl rfl (k := (y.2.1 - 2)) (by rw [nI_sub1 (by omega)]; rfl) (by omega) (Nat.le_of_ble_eq_true rfl) ?_
          show ab_Z m_Mo_termOf _ _ _ 42 [_, _, _, _, _, _, _, _] [_] _
          refine ab_go ok_Mo_termOf 4 rfl ?_
          show ab_Z m_Mo_termOf _ _ _ 46 [_, _, _, _, _, _, _, _] [_, _] _
          refine ab_ia ok_Mo_termOf rfl rfl (k := (y.2.1 - 1)) (by first | rfl | (simp only [LL1, LL2, LL3, LL4, LL5, LL6, LL7, LL8, LL10, LL15, LL18, LL20, LL21, LL22, LL23, LL24, LL32, LL39, LL40, LL130, LL420, pk_mul, nI_add]; done) | (simp only [LL1, LL2, LL3, LL4, LL5, LL6, LL7, LL8, LL10, LL15, LL18, LL20, LL21, LL22, LL23, LL24, LL32, LL39, LL40, LL130, LL420, pk_mul, nI_add]; congr 1; omega)) (by omega) (Nat.le_of_ble_eq_true rfl) ?_
          show ab_Z m_Mo_termOf _ _ _ 47 [_, _, _, _, _, _, _, _] [_] _
          refine ab_go ok_Mo_termOf 3 rfl ?_
          show ab_Z m_Mo_termOf _ _ _ 50 [_, _, _, _, _, _, _, _] [_, _] _
          refine ab_go ok_Mo_termOf 1 rfl ?_
          show ab_Z m_Mo_termOf _ _ _ 58 [_, _, _, _, _, _, _, _] [] _
          refine ab_go ok_Mo_termOf 7 rfl ?_
          show ab_Z m_Mo_termOf _ _ _ 65 [_, _, _, _, _, _, _, _] [_, _, _, _] _
          refine ab_go ok_Mo_termOf 1 rfl ?_
          show ab_Z m_Mo_termOf _ _ _ 70 [_, _, _, _, _, _, _, _] [_, _] _
          refine ab_go ok_Mo_termOf 2 rfl ?_
          show ab_Z m_Mo_termOf _ _ _ 72 [_, _, _, _, _, _, _, _] [_, _, _, _] _
          refine ab_go ok_Mo_termOf 1 rfl ?_
          show ab_Z m_Mo_termOf _ _ _ 77 [_, _, _, _, _, _, _, _] [_, _] _
          refine ab_go ok_Mo_termOf 2 rfl ?_
          show ab_Z m_Mo_termOf _ _ _ 79 [_, _, _, _, _, _, _, _] [_, _, _, _] _
          refine ab_go ok_Mo_termOf 1 rfl ?_
          show ab_Z m_Mo_termOf _ _ _ 80 [_, _, _, _, _, _, _, _] [_, _] _
          refine ab_go ok_Mo_termOf 4 rfl ?_
          show ab_Z m_Mo_termOf _ _ _ 87 [_, _, _, _, _, _, _, _] [_, _, _] _
          refine ab_is ok_Mo_termOf rfl rfl (k := (y.2.1 - 2)) (by rw [nI_sub1 (by omega)]; rfl) (by omega) (Nat.le_of_ble_eq_true rfl) ?_
          show ab_Z m_Mo_termOf _ _ _ 88 [_, _, _, _, _, _, _, _] [] _
          rw [ro_up]
          refine ab_go ok_Mo_termOf 2 rfl ?_
          show ab_Z m_Mo_termOf _ _ _ 4 [_, _, _, _, _, _, _, _] [] _
          exact ih rfl
        · refine ab_go ok_Mo_termOf 1 rfl ?_
          show ab_Z m_Mo_termOf _ _ _ 35 [_, _, _, _, _, _, _, _] [] _
          refine ab_go ok_Mo_termOf 6 rfl ?_
          show ab_Z m_Mo_termOf _ _ _ 41 [_, _, _, _, _, _, _, _] [_, _] _
          rw [sb_m1 (show 0 < y.2.1 by omega)]
          refine ab_ia ok_Mo_termOf rfl rfl (k := (y.2.1 - 2)) (by rw [nI_sub1 (by omega)]; rfl) (by omega) (Nat.le_of_ble_eq_true rfl) ?_
          show ab_Z m_Mo_termOf _ _ _ 42 [_, _, _, _, _, _, _, _] [_] _
          refine ab_go ok_Mo_termOf 4 rfl ?_
          show ab_Z m_Mo_termOf _ _ _ 46 [_, _, _, _, _, _, _, _] [_, _] _
          refine ab_ia ok_Mo_termOf rfl rfl (k := (y.2.1 - 1)) (by first | rfl | (simp only [LL1, LL2, LL3, LL4, LL5, LL6, LL7, LL8, LL10, LL15, LL18, LL20, LL21, LL22, LL23, LL24, LL32, LL39, LL40, LL130, LL420, pk_mul, nI_add]; done) | (simp only [LL1, LL2, LL3, LL4, LL5, LL6, LL7, LL8, LL10, LL15, LL18, LL20, LL21, LL22, LL23, LL24, LL32, LL39, LL40, LL130, LL420, pk_mul, nI_add]; congr 1; omega)) (by omega) (Nat.le_of_ble_eq_true rfl) ?_
          show ab_Z m_Mo_termOf _ _ _ 47 [_, _, _, _, _, _, _, _] [_] _
          rw [show ab_ro s 113 y.1 113 (y.2.1 - 2) = y.1 (y.2.1 - 2) from rfl, show ab_ro s 113 y.1 113 (y.2.1 - 1) = y.1 (y.2.1 - 1) from rfl]
          refine ab_go ok_Mo_termOf 3 rfl ?_
          show ab_Z m_Mo_termOf _ _ _ 50 [_, _, _, _, _, _, _, _] [_, _] _
          refine ab_go ok_Mo_termOf 1 rfl ?_
          show ab_Z m_Mo_termOf _ _ _ 51 [_, _, _, _, _, _, _, _] [] _
          refine ab_go ok_Mo_termOf 1 rfl ?_
          show ab_Z m_Mo_termOf _ _ _ 52 [_, _, _, _, _, _, _, _] [_] _
          refine ab_br ok_Mo_termOf rfl rfl ?_ ?_
          · intro h2
            show ab_Z m_Mo_termOf _ _ _ 53 [_, _, _, _, _, _, _, _] [] _
            refine ab_go ok_Mo_termOf 2 rfl ?_
            show ab_Z m_Mo_termOf _ _ _ 55 [_, _, _, _, _, _, _, _] [_, _] _
            refine ab_go ok_Mo_termOf 1 rfl ?_
            show ab_Z m_Mo_termOf _ _ _ 56 [_, _, _, _, _, _, _, _] [] _
            refine ab_go ok_Mo_termOf 1 rfl ?_
            show ab_Z m_Mo_termOf _ _ _ 57 [_, _, _, _, _, _, _, _] [_] _
            have fin : Po (some (.int 0)) (HA fm X (ab_up (ab_ro s 113 y.1) 81 49 1) t) := by
              have hB : (evQ (s 112) Q).2 = true := by
                rw [← ev2]
                exact hbr (by rw [decide_eq_true h2]; rfl)
              rw [← hPo]
              refine ⟨by unfold finQ; rw [hB]; rfl, _, rfl, Kr.up rfl (Kr.ro (fun k => rfl) (Kr.rf w0 s)), ?_⟩
              rw [hB, ab_up_s]
              rfl
            exact ab_rI ok_Mo_termOf rfl (fin)
          · intro h2
            show ab_Z m_Mo_termOf _ _ _ 58 [_, _, _, _, _, _, _, _] [] _
            refine ab_go ok_Mo_termOf 7 rfl ?_
            show ab_Z m_Mo_termOf _ _ _ 65 [_, _, _, _, _, _, _, _] [_, _, _, _] _
            refine ab_go ok_Mo_termOf 1 rfl ?_
            show ab_Z m_Mo_termOf _ _ _ 70 [_, _, _, _, _, _, _, _] [_, _] _
            refine ab_go ok_Mo_termOf 2 rfl ?_
            show ab_Z m_Mo_termOf _ _ _ 72 [_, _, _, _, _, _, _, _] [_, _, _, _] _
            refine ab_go ok_Mo_termOf 1 rfl ?_
            show ab_Z m_Mo_termOf _ _ _ 77 [_, _, _, _, _, _, _, _] [_, _] _
            refine ab_go ok_Mo_termOf 2 rfl ?_
            show ab_Z m_Mo_termOf _ _ _ 79 [_, _, _, _, _, _, _, _] [_, _, _, _] _
            refine ab_go ok_Mo_termOf 1 rfl ?_
            show ab_Z m_Mo_termOf _ _ _ 84 [_, _, _, _, _, _, _, _] [_, _] _
            refine ab_go ok_Mo_termOf 2 rfl ?_
            show ab_Z m_Mo_termOf _ _ _ 86 [_, _, _, _, _, _, _, _] [_, _, _, _] _
            refine ab_ck ok_Mo_termOf rfl rfl (h2) ?_
            show ab_Z m_Mo_termOf _ _ _ 87 [_, _, _, _, _, _, _, _] [_, _, _] _
            refine ab_is ok_Mo_termOf rfl rfl (k := (y.2.1 - 2)) (by rw [nI_sub1 (by omega)]; rfl) (by omega) (Nat.le_of_ble_eq_true rfl) ?_
            show ab_Z m_Mo_termOf _ _ _ 88 [_, _, _, _, _, _, _, _] [] _
            rw [ro_up]
            refine ab_go ok_Mo_termOf 2 rfl ?_
            show ab_Z m_Mo_termOf _ _ _ 4 [_, _, _, _, _, _, _, _] [] _
            rw [show opF (3 + 2) (y.1 (y.2.1 - 2)) (y.1 (y.2.1 - 1)) = y.1 (y.2.1 - 2) / y.1 (y.2.1 - 1) from if_neg h2] at ih
            exact ih (by rw [decide_eq_false h2, Bool.and_false])
theorem t_Mo_lawTells {lv q : Nat} (hlv : s 81 18 = nI lv) (hl2 : lv < 2) (hq : q < 4) {P pl : List (List Ins)} (hL : RLaw s (4 * lv + q) P pl) {y : Int32} (hy : y = lawSem (s 112) pl) : ab_T g_Mo_lawTells (d + 1) (0, 0) [.ref 81, .int (nI q), .int y] (HA fm X s t) (PR w0 (lawSem (s 112) P) fm X s t) := by
  refine ab_T_of (M := m_Mo_lawTells) rfl rfl (Nat.le_of_ble_eq_true rfl) ?_
  show ab_Z m_Mo_lawTells _ _ _ 0 [_, _, _, _, _, _, _] [] _
  refine ab_go ok_Mo_lawTells 10 rfl ?_
  show ab_Z m_Mo_lawTells _ _ _ 10 [_, _, _, _, _, _, _] [_, _] _
  rw [hlv, show (4 : Int32) * nI lv + nI q = nI (4 * lv + q) from by rw [LL4, pk_mul, nI_add]]
  refine ab_ia ok_Mo_lawTells rfl rfl (k := (4 * lv + q)) (by first | rfl | (simp only [LL1, LL2, LL3, LL4, LL5, LL6, LL7, LL8, LL10, LL15, LL18, LL20, LL21, LL22, LL23, LL24, LL32, LL39, LL40, LL130, LL420, pk_mul, nI_add]; done) | (simp only [LL1, LL2, LL3, LL4, LL5, LL6, LL7, LL8, LL10, LL15, LL18, LL20, LL21, LL22, LL23, LL24, LL32, LL39, LL40, LL130, LL420, pk_mul, nI_add]; congr 1; omega)) (by omega) (Nat.le_of_ble_eq_true rfl) ?_
  show ab_Z m_Mo_lawTells _ _ _ 11 [_, _, _, _, _, _, _] [_] _
  refine ab_go ok_Mo_lawTells 3 rfl ?_
  show ab_Z m_Mo_lawTells _ _ _ 14 [_, _, _, _, _, _, _] [_, _, _] _
  refine ab_ia ok_Mo_lawTells rfl rfl (k := (4 * lv + q)) (by first | rfl | (simp only [LL1, LL2, LL3, LL4, LL5, LL6, LL7, LL8, LL10, LL15, LL18, LL20, LL21, LL22, LL23, LL24, LL32, LL39, LL40, LL130, LL420, pk_mul, nI_add]; done) | (simp only [LL1, LL2, LL3, LL4, LL5, LL6, LL7, LL8, LL10, LL15, LL18, LL20, LL21, LL22, LL23, LL24, LL32, LL39, LL40, LL130, LL420, pk_mul, nI_add]; congr 1; omega)) (by omega) (Nat.le_of_ble_eq_true rfl) ?_
  show ab_Z m_Mo_lawTells _ _ _ 15 [_, _, _, _, _, _, _] [_, _] _
  rcases hL with ⟨hp, rfl⟩ | ⟨f, n, h2, h3, h26, hB⟩
  · refine ab_br ok_Mo_lawTells rfl rfl ?_ ?_
    · intro h1
      show ab_Z m_Mo_lawTells _ _ _ 16 [_, _, _, _, _, _, _] [] _
      refine ab_go ok_Mo_lawTells 1 rfl ?_
      show ab_Z m_Mo_lawTells _ _ _ 17 [_, _, _, _, _, _, _] [_] _
      exact ab_rI ok_Mo_lawTells rfl (⟨by rw [hy], s, rfl, Kr.rf w0 s⟩)
    · intro h1
      show ab_Z m_Mo_lawTells _ _ _ 18 [_, _, _, _, _, _, _] [] _
      exact absurd hp h1
  · rw [h2, h3]
    refine ab_br ok_Mo_lawTells rfl rfl ?_ ?_
    · intro h1
      show ab_Z m_Mo_lawTells _ _ _ 16 [_, _, _, _, _, _, _] [] _
      exact absurd (show nI f < nI (f + (n + 1)) from nI_lt (by omega) (by omega)) (by rw [h1]; exact fun z => absurd (i_lt z) (by omega))
    · intro h1
      show ab_Z m_Mo_lawTells _ _ _ 18 [_, _, _, _, _, _, _] [] _
      refine ab_go ok_Mo_lawTells 2 rfl ?_
      show ab_Z m_Mo_lawTells _ _ _ 20 [_, _, _, _, _, _, _] [_, _] _
      refine ab_go ok_Mo_lawTells 1 rfl ?_
      show ab_Z m_Mo_lawTells _ _ _ 21 [_, _, _, _, _, _, _] [] _
      refine ab_go ok_Mo_lawTells 3 rfl ?_
      show ab_Z m_Mo_lawTells _ _ _ 24 [_, _, _, _, _, _, _] [_, _] _
      refine ab_ia ok_Mo_lawTells rfl rfl (k := (4 * lv + q)) (by first | rfl | (simp only [LL1, LL2, LL3, LL4, LL5, LL6, LL7, LL8, LL10, LL15, LL18, LL20, LL21, LL22, LL23, LL24, LL32, LL39, LL40, LL130, LL420, pk_mul, nI_add]; done) | (simp only [LL1, LL2, LL3, LL4, LL5, LL6, LL7, LL8, LL10, LL15, LL18, LL20, LL21, LL22, LL23, LL24, LL32, LL39, LL40, LL130, LL420, pk_mul, nI_add]; congr 1; omega)) (by omega) (Nat.le_of_ble_eq_true rfl) ?_
      show ab_Z m_Mo_lawTells _ _ _ 25 [_, _, _, _, _, _, _] [_] _
      rw [show ab_up s 81 49 0 102 (4 * lv + q) = nI f from h2]
      refine ab_go ok_Mo_lawTells 1 rfl ?_
      show ab_Z m_Mo_lawTells _ _ _ 26 [_, _, _, _, _, _, _] [] _
      have loop : ∀ n b P' s1, Kr w0 s s1 → s1 81 49 = 0 → RBr s b n P' → b + (n + 1) ≤ 260 → s 103 (4 * lv + q) = nI (b + (n + 1)) → lawSem (s 112) P' = lawSem (s 112) P → ab_Z m_Mo_lawTells (d + 1) (0, 0) (PR w0 (lawSem (s 112) P) fm X s t) 26 [some (.ref 81), none, none, some (.int (nI (4 * lv + q))), some (.int (nI b)), none, none] [] (HA fm X s1 t) := by
        intro n
        induction n with
        | zero =>
          intro b P' s1 hk hz hB hb he hs
          obtain ⟨c, x, rfl, e2, e3, e4, e5⟩ := hB
          refine ab_go ok_Mo_lawTells 4 rfl ?_
          show ab_Z m_Mo_lawTells _ _ _ 30 [_, _, _, _, _, _, _] [_, _, _] _
          refine ab_ia ok_Mo_lawTells rfl rfl (k := (4 * lv + q)) (by first | rfl | (simp only [LL1, LL2, LL3, LL4, LL5, LL6, LL7, LL8, LL10, LL15, LL18, LL20, LL21, LL22, LL23, LL24, LL32, LL39, LL40, LL130, LL420, pk_mul, nI_add]; done) | (simp only [LL1, LL2, LL3, LL4, LL5, LL6, LL7, LL8, LL10, LL15, LL18, LL20, LL21, LL22, LL23, LL24, LL32, LL39, LL40, LL130, LL420, pk_mul, nI_add]; congr 1; omega)) (by omega) (Nat.le_of_ble_eq_true rfl) ?_
          show ab_Z m_Mo_lawTells _ _ _ 31 [_, _, _, _, _, _, _] [_, _] _
          rw [hk 103 _ rfl, he]
          refine ab_br ok_Mo_lawTells rfl rfl ?_ ?_
          · intro h4
            show ab_Z m_Mo_lawTells _ _ _ 88 [_, _, _, _, _, _, _] [] _
            exact absurd h4 (nI_ge (by omega) (by omega))
          · intro h4
            show ab_Z m_Mo_lawTells _ _ _ 32 [_, _, _, _, _, _, _] [] _
            refine ab_go ok_Mo_lawTells 3 rfl ?_
            show ab_Z m_Mo_lawTells _ _ _ 35 [_, _, _, _, _, _, _] [_, _] _
            first | (refine ab_ba1 ok_Mo_lawTells rfl rfl (k := b) (by first | rfl | (simp only [LL1, LL2, LL3, LL4, LL5, LL6, LL7, LL8, LL10, LL15, LL18, LL20, LL21, LL22, LL23, LL24, LL32, LL39, LL40, LL130, LL420, pk_mul, nI_add]; done) | (simp only [LL1, LL2, LL3, LL4, LL5, LL6, LL7, LL8, LL10, LL15, LL18, LL20, LL21, LL22, LL23, LL24, LL32, LL39, LL40, LL130, LL420, pk_mul, nI_add]; congr 1; omega)) (by omega) (Nat.le_of_ble_eq_true rfl) ?_) | (refine ab_ba2 ok_Mo_lawTells rfl rfl (k := b) (by first | rfl | (simp only [LL1, LL2, LL3, LL4, LL5, LL6, LL7, LL8, LL10, LL15, LL18, LL20, LL21, LL22, LL23, LL24, LL32, LL39, LL40, LL130, LL420, pk_mul, nI_add]; done) | (simp only [LL1, LL2, LL3, LL4, LL5, LL6, LL7, LL8, LL10, LL15, LL18, LL20, LL21, LL22, LL23, LL24, LL32, LL39, LL40, LL130, LL420, pk_mul, nI_add]; congr 1; omega)) (by omega) (Nat.le_of_ble_eq_true rfl) ?_)
            show ab_Z m_Mo_lawTells _ _ _ 36 [_, _, _, _, _, _, _] [_] _
            rw [hk 104 _ rfl, e2]
            refine ab_go ok_Mo_lawTells 1 rfl ?_
            show ab_Z m_Mo_lawTells _ _ _ 68 [_, _, _, _, _, _, _] [] _
            refine ab_go ok_Mo_lawTells 4 rfl ?_
            show ab_Z m_Mo_lawTells _ _ _ 72 [_, _, _, _, _, _, _] [_, _, _] _
            refine ab_ia ok_Mo_lawTells rfl rfl (k := b) (by first | rfl | (simp only [LL1, LL2, LL3, LL4, LL5, LL6, LL7, LL8, LL10, LL15, LL18, LL20, LL21, LL22, LL23, LL24, LL32, LL39, LL40, LL130, LL420, pk_mul, nI_add]; done) | (simp only [LL1, LL2, LL3, LL4, LL5, LL6, LL7, LL8, LL10, LL15, LL18, LL20, LL21, LL22, LL23, LL24, LL32, LL39, LL40, LL130, LL420, pk_mul, nI_add]; congr 1; omega)) (by omega) (Nat.le_of_ble_eq_true rfl) ?_
            show ab_Z m_Mo_lawTells _ _ _ 73 [_, _, _, _, _, _, _] [_, _] _
            rw [hk 107 _ rfl, e3]
            refine ab_go ok_Mo_lawTells 3 rfl ?_
            show ab_Z m_Mo_lawTells _ _ _ 76 [_, _, _, _, _, _, _] [_, _, _, _] _
            refine ab_ia ok_Mo_lawTells rfl rfl (k := b) (by first | rfl | (simp only [LL1, LL2, LL3, LL4, LL5, LL6, LL7, LL8, LL10, LL15, LL18, LL20, LL21, LL22, LL23, LL24, LL32, LL39, LL40, LL130, LL420, pk_mul, nI_add]; done) | (simp only [LL1, LL2, LL3, LL4, LL5, LL6, LL7, LL8, LL10, LL15, LL18, LL20, LL21, LL22, LL23, LL24, LL32, LL39, LL40, LL130, LL420, pk_mul, nI_add]; congr 1; omega)) (by omega) (Nat.le_of_ble_eq_true rfl) ?_
            show ab_Z m_Mo_lawTells _ _ _ 77 [_, _, _, _, _, _, _] [_, _, _] _
            rw [hk 108 _ rfl, e4]
            refine ab_cl ok_Mo_lawTells rfl [_, _, _] [] rfl ⟨_, _, rfl, rfl, Or.inl ⟨_, _, rfl, rfl⟩⟩ (Nat.le_of_ble_eq_true rfl) (t_Mo_termOf d fm X s1 t (Q := c) (cdA_e (hk.row (fun _ => rfl)) (hk.row (fun _ => rfl)) e5) rfl) ?_
            rintro _ _ ⟨rfl, s2, rfl, hk2, e6⟩
            show ab_Z m_Mo_lawTells _ _ _ 78 [_, _, _, _, _, _, _] [_] _
            rw [hk.row (c := 112) (fun _ => rfl)] at e6 ⊢
            rw [hz] at e6
            have hs' : finQ (s 112) c = lawSem (s 112) P := hs
            refine ab_go ok_Mo_lawTells 3 rfl ?_
            show ab_Z m_Mo_lawTells _ _ _ 81 [_, _, _, _, _, _, _] [_] _
            refine ab_br ok_Mo_lawTells rfl rfl ?_ ?_
            · intro h5
              show ab_Z m_Mo_lawTells _ _ _ 84 [_, _, _, _, _, _, _] [] _
              refine ab_go ok_Mo_lawTells 1 rfl ?_
              show ab_Z m_Mo_lawTells _ _ _ 85 [_, _, _, _, _, _, _] [_] _
              exact ab_rI ok_Mo_lawTells rfl (⟨by rw [hs'], s2, rfl, hk.tr hk2⟩)
            · intro h5
              show ab_Z m_Mo_lawTells _ _ _ 82 [_, _, _, _, _, _, _] [] _
              refine ab_go ok_Mo_lawTells 2 rfl ?_
              show ab_Z m_Mo_lawTells _ _ _ 85 [_, _, _, _, _, _, _] [_] _
              have hB2 : (evQ (s 112) c).2 = true := by
                cases hx : (evQ (s 112) c).2
                · rw [hx] at e6; exact absurd e6 h5
                · rfl
              exact ab_rI ok_Mo_lawTells rfl (⟨by rw [← hs']; unfold finQ; rw [hB2]; rfl, s2, rfl, hk.tr hk2⟩)
        | succ n ihn =>
          intro b P' s1 hk hz hB hb he hs
          obtain ⟨a, e, c, P2, x, rfl, e2, e3, e4, e5, e6, c1, c2, c3, hB'⟩ := hB
          obtain ⟨p0, p1, rfl⟩ := RBr_ne hB'
          rw [lawSem] at hs
          refine ab_go ok_Mo_lawTells 4 rfl ?_
          show ab_Z m_Mo_lawTells _ _ _ 30 [_, _, _, _, _, _, _] [_, _, _] _
          refine ab_ia ok_Mo_lawTells rfl rfl (k := (4 * lv + q)) (by first | rfl | (simp only [LL1, LL2, LL3, LL4, LL5, LL6, LL7, LL8, LL10, LL15, LL18, LL20, LL21, LL22, LL23, LL24, LL32, LL39, LL40, LL130, LL420, pk_mul, nI_add]; done) | (simp only [LL1, LL2, LL3, LL4, LL5, LL6, LL7, LL8, LL10, LL15, LL18, LL20, LL21, LL22, LL23, LL24, LL32, LL39, LL40, LL130, LL420, pk_mul, nI_add]; congr 1; omega)) (by omega) (Nat.le_of_ble_eq_true rfl) ?_
          show ab_Z m_Mo_lawTells _ _ _ 31 [_, _, _, _, _, _, _] [_, _] _
          rw [hk 103 _ rfl, he]
          refine ab_br ok_Mo_lawTells rfl rfl ?_ ?_
          · intro h4
            show ab_Z m_Mo_lawTells _ _ _ 88 [_, _, _, _, _, _, _] [] _
            exact absurd h4 (nI_ge (by omega) (by omega))
          · intro h4
            show ab_Z m_Mo_lawTells _ _ _ 32 [_, _, _, _, _, _, _] [] _
            refine ab_go ok_Mo_lawTells 3 rfl ?_
            show ab_Z m_Mo_lawTells _ _ _ 35 [_, _, _, _, _, _, _] [_, _] _
            first | (refine ab_ba1 ok_Mo_lawTells rfl rfl (k := b) (by first | rfl | (simp only [LL1, LL2, LL3, LL4, LL5, LL6, LL7, LL8, LL10, LL15, LL18, LL20, LL21, LL22, LL23, LL24, LL32, LL39, LL40, LL130, LL420, pk_mul, nI_add]; done) | (simp only [LL1, LL2, LL3, LL4, LL5, LL6, LL7, LL8, LL10, LL15, LL18, LL20, LL21, LL22, LL23, LL24, LL32, LL39, LL40, LL130, LL420, pk_mul, nI_add]; congr 1; omega)) (by omega) (Nat.le_of_ble_eq_true rfl) ?_) | (refine ab_ba2 ok_Mo_lawTells rfl rfl (k := b) (by first | rfl | (simp only [LL1, LL2, LL3, LL4, LL5, LL6, LL7, LL8, LL10, LL15, LL18, LL20, LL21, LL22, LL23, LL24, LL32, LL39, LL40, LL130, LL420, pk_mul, nI_add]; done) | (simp only [LL1, LL2, LL3, LL4, LL5, LL6, LL7, LL8, LL10, LL15, LL18, LL20, LL21, LL22, LL23, LL24, LL32, LL39, LL40, LL130, LL420, pk_mul, nI_add]; congr 1; omega)) (by omega) (Nat.le_of_ble_eq_true rfl) ?_)
            show ab_Z m_Mo_lawTells _ _ _ 36 [_, _, _, _, _, _, _] [_] _
            rw [hk 104 _ rfl, e2]
            refine ab_go ok_Mo_lawTells 1 rfl ?_
            show ab_Z m_Mo_lawTells _ _ _ 37 [_, _, _, _, _, _, _] [] _
            refine ab_go ok_Mo_lawTells 4 rfl ?_
            show ab_Z m_Mo_lawTells _ _ _ 41 [_, _, _, _, _, _, _] [_, _, _] _
            refine ab_ia ok_Mo_lawTells rfl rfl (k := b) (by first | rfl | (simp only [LL1, LL2, LL3, LL4, LL5, LL6, LL7, LL8, LL10, LL15, LL18, LL20, LL21, LL22, LL23, LL24, LL32, LL39, LL40, LL130, LL420, pk_mul, nI_add]; done) | (simp only [LL1, LL2, LL3, LL4, LL5, LL6, LL7, LL8, LL10, LL15, LL18, LL20, LL21, LL22, LL23, LL24, LL32, LL39, LL40, LL130, LL420, pk_mul, nI_add]; congr 1; omega)) (by omega) (Nat.le_of_ble_eq_true rfl) ?_
            show ab_Z m_Mo_lawTells _ _ _ 42 [_, _, _, _, _, _, _] [_, _] _
            rw [hk 105 _ rfl, e3]
            refine ab_go ok_Mo_lawTells 3 rfl ?_
            show ab_Z m_Mo_lawTells _ _ _ 45 [_, _, _, _, _, _, _] [_, _, _, _] _
            refine ab_ia ok_Mo_lawTells rfl rfl (k := b) (by first | rfl | (simp only [LL1, LL2, LL3, LL4, LL5, LL6, LL7, LL8, LL10, LL15, LL18, LL20, LL21, LL22, LL23, LL24, LL32, LL39, LL40, LL130, LL420, pk_mul, nI_add]; done) | (simp only [LL1, LL2, LL3, LL4, LL5, LL6, LL7, LL8, LL10, LL15, LL18, LL20, LL21, LL22, LL23, LL24, LL32, LL39, LL40, LL130, LL420, pk_mul, nI_add]; congr 1; omega)) (by omega) (Nat.le_of_ble_eq_true rfl) ?_
            show ab_Z m_Mo_lawTells _ _ _ 46 [_, _, _, _, _, _, _] [_, _, _] _
            rw [hk 106 _ rfl, e4]
            refine ab_cl ok_Mo_lawTells rfl [_, _, _] [] rfl ⟨_, _, rfl, rfl, Or.inl ⟨_, _, rfl, rfl⟩⟩ (Nat.le_of_ble_eq_true rfl) (t_Mo_termOf d fm X s1 t (Q := a) (cdA_e (hk.row (fun _ => rfl)) (hk.row (fun _ => rfl)) c1) rfl) ?_
            rintro _ _ ⟨rfl, s2, rfl, hk2, f1⟩
            show ab_Z m_Mo_lawTells _ _ _ 47 [_, _, _, _, _, _, _] [_] _
            rw [hk.row (c := 112) (fun _ => rfl)] at f1 ⊢
            rw [hz] at f1
            have hk12 := hk.tr hk2
            refine ab_go ok_Mo_lawTells 5 rfl ?_
            show ab_Z m_Mo_lawTells _ _ _ 52 [_, _, _, _, _, _, _] [_, _, _] _
            refine ab_ia ok_Mo_lawTells rfl rfl (k := b) (by first | rfl | (simp only [LL1, LL2, LL3, LL4, LL5, LL6, LL7, LL8, LL10, LL15, LL18, LL20, LL21, LL22, LL23, LL24, LL32, LL39, LL40, LL130, LL420, pk_mul, nI_add]; done) | (simp only [LL1, LL2, LL3, LL4, LL5, LL6, LL7, LL8, LL10, LL15, LL18, LL20, LL21, LL22, LL23, LL24, LL32, LL39, LL40, LL130, LL420, pk_mul, nI_add]; congr 1; omega)) (by omega) (Nat.le_of_ble_eq_true rfl) ?_
            show ab_Z m_Mo_lawTells _ _ _ 53 [_, _, _, _, _, _, _] [_, _] _
            rw [hk12 106 _ rfl, e4]
            refine ab_go ok_Mo_lawTells 3 rfl ?_
            show ab_Z m_Mo_lawTells _ _ _ 56 [_, _, _, _, _, _, _] [_, _, _, _] _
            refine ab_ia ok_Mo_lawTells rfl rfl (k := b) (by first | rfl | (simp only [LL1, LL2, LL3, LL4, LL5, LL6, LL7, LL8, LL10, LL15, LL18, LL20, LL21, LL22, LL23, LL24, LL32, LL39, LL40, LL130, LL420, pk_mul, nI_add]; done) | (simp only [LL1, LL2, LL3, LL4, LL5, LL6, LL7, LL8, LL10, LL15, LL18, LL20, LL21, LL22, LL23, LL24, LL32, LL39, LL40, LL130, LL420, pk_mul, nI_add]; congr 1; omega)) (by omega) (Nat.le_of_ble_eq_true rfl) ?_
            show ab_Z m_Mo_lawTells _ _ _ 57 [_, _, _, _, _, _, _] [_, _, _] _
            rw [hk12 107 _ rfl, e5]
            refine ab_cl ok_Mo_lawTells rfl [_, _, _] [] rfl ⟨_, _, rfl, rfl, Or.inl ⟨_, _, rfl, rfl⟩⟩ (Nat.le_of_ble_eq_true rfl) (t_Mo_termOf d fm X s2 t (Q := e) (cdA_e (hk12.row (fun _ => rfl)) (hk12.row (fun _ => rfl)) c2) rfl) ?_
            rintro _ _ ⟨rfl, s3, rfl, hk3, f2⟩
            show ab_Z m_Mo_lawTells _ _ _ 58 [_, _, _, _, _, _, _] [_] _
            rw [hk12.row (c := 112) (fun _ => rfl)] at f2 ⊢
            rw [f1] at f2
            have hk13 := hk12.tr hk3
            refine ab_go ok_Mo_lawTells 3 rfl ?_
            show ab_Z m_Mo_lawTells _ _ _ 61 [_, _, _, _, _, _, _] [_] _
            have f3 : s3 81 49 = if ((evQ (s 112) a).2 || (evQ (s 112) e).2) = true then 1 else 0 := by
              rw [f2]
              cases (evQ (s 112) a).2 <;> cases (evQ (s 112) e).2 <;> rfl
            refine ab_br ok_Mo_lawTells rfl rfl ?_ ?_
            · intro h5
              show ab_Z m_Mo_lawTells _ _ _ 64 [_, _, _, _, _, _, _] [] _
              have hB2 : ((evQ (s 112) a).2 || (evQ (s 112) e).2) = false := by
                cases hx : ((evQ (s 112) a).2 || (evQ (s 112) e).2)
                · rfl
                · rw [hx] at f3; rw [f3] at h5; exact absurd h5 (by decide)
              rw [hB2, if_neg (by decide)] at hs
              have ha : finQ (s 112) a = (evQ (s 112) a).1 := by unfold finQ; rw [(Bool.or_eq_false_iff.mp hB2).1]; rfl
              have he' : finQ (s 112) e = (evQ (s 112) e).1 := by unfold finQ; rw [(Bool.or_eq_false_iff.mp hB2).2]; rfl
              rw [ha, he']
              refine ab_go ok_Mo_lawTells 2 rfl ?_
              show ab_Z m_Mo_lawTells _ _ _ 66 [_, _, _, _, _, _, _] [_, _] _
              refine ab_br ok_Mo_lawTells rfl rfl ?_ ?_
              · intro h6
                show ab_Z m_Mo_lawTells _ _ _ 68 [_, _, _, _, _, _, _] [] _
                rw [if_pos h6] at hs
                refine ab_go ok_Mo_lawTells 4 rfl ?_
                show ab_Z m_Mo_lawTells _ _ _ 72 [_, _, _, _, _, _, _] [_, _, _] _
                refine ab_ia ok_Mo_lawTells rfl rfl (k := b) (by first | rfl | (simp only [LL1, LL2, LL3, LL4, LL5, LL6, LL7, LL8, LL10, LL15, LL18, LL20, LL21, LL22, LL23, LL24, LL32, LL39, LL40, LL130, LL420, pk_mul, nI_add]; done) | (simp only [LL1, LL2, LL3, LL4, LL5, LL6, LL7, LL8, LL10, LL15, LL18, LL20, LL21, LL22, LL23, LL24, LL32, LL39, LL40, LL130, LL420, pk_mul, nI_add]; congr 1; omega)) (by omega) (Nat.le_of_ble_eq_true rfl) ?_
                show ab_Z m_Mo_lawTells _ _ _ 73 [_, _, _, _, _, _, _] [_, _] _
                rw [hk13 107 _ rfl, e5]
                refine ab_go ok_Mo_lawTells 3 rfl ?_
                show ab_Z m_Mo_lawTells _ _ _ 76 [_, _, _, _, _, _, _] [_, _, _, _] _
                refine ab_ia ok_Mo_lawTells rfl rfl (k := b) (by first | rfl | (simp only [LL1, LL2, LL3, LL4, LL5, LL6, LL7, LL8, LL10, LL15, LL18, LL20, LL21, LL22, LL23, LL24, LL32, LL39, LL40, LL130, LL420, pk_mul, nI_add]; done) | (simp only [LL1, LL2, LL3, LL4, LL5, LL6, LL7, LL8, LL10, LL15, LL18, LL20, LL21, LL22, LL23, LL24, LL32, LL39, LL40, LL130, LL420, pk_mul, nI_add]; congr 1; omega)) (by omega) (Nat.le_of_ble_eq_true rfl) ?_
                show ab_Z m_Mo_lawTells _ _ _ 77 [_, _, _, _, _, _, _] [_, _, _] _
                rw [hk13 108 _ rfl, e6]
                refine ab_cl ok_Mo_lawTells rfl [_, _, _] [] rfl ⟨_, _, rfl, rfl, Or.inl ⟨_, _, rfl, rfl⟩⟩ (Nat.le_of_ble_eq_true rfl) (t_Mo_termOf d fm X s3 t (Q := c) (cdA_e (hk13.row (fun _ => rfl)) (hk13.row (fun _ => rfl)) c3) rfl) ?_
                rintro _ _ ⟨rfl, s4, rfl, hk4, f4⟩
                show ab_Z m_Mo_lawTells _ _ _ 78 [_, _, _, _, _, _, _] [_] _
                rw [hk13.row (c := 112) (fun _ => rfl)] at f4 ⊢
                rw [h5] at f4
                refine ab_go ok_Mo_lawTells 3 rfl ?_
                show ab_Z m_Mo_lawTells _ _ _ 81 [_, _, _, _, _, _, _] [_] _
                refine ab_br ok_Mo_lawTells rfl rfl ?_ ?_
                · intro h7
                  show ab_Z m_Mo_lawTells _ _ _ 84 [_, _, _, _, _, _, _] [] _
                  refine ab_go ok_Mo_lawTells 1 rfl ?_
                  show ab_Z m_Mo_lawTells _ _ _ 85 [_, _, _, _, _, _, _] [_] _
                  exact ab_rI ok_Mo_lawTells rfl (⟨by rw [hs], s4, rfl, hk13.tr hk4⟩)
                · intro h7
                  show ab_Z m_Mo_lawTells _ _ _ 82 [_, _, _, _, _, _, _] [] _
                  refine ab_go ok_Mo_lawTells 2 rfl ?_
                  show ab_Z m_Mo_lawTells _ _ _ 85 [_, _, _, _, _, _, _] [_] _
                  have hB3 : (evQ (s 112) c).2 = true := by
                    cases hx : (evQ (s 112) c).2
                    · rw [hx] at f4; exact absurd f4 h7
                    · rfl
                  exact ab_rI ok_Mo_lawTells rfl (⟨by rw [← hs]; unfold finQ; rw [hB3]; rfl, s4, rfl, hk13.tr hk4⟩)
              · intro h6
                show ab_Z m_Mo_lawTells _ _ _ 67 [_, _, _, _, _, _, _] [] _
                rw [if_neg h6] at hs
                refine ab_go ok_Mo_lawTells 3 rfl ?_
                show ab_Z m_Mo_lawTells _ _ _ 26 [_, _, _, _, _, _, _] [] _
                have ih2 := ihn (b + 1) (p0 :: p1) s3 hk13 h5 hB' (by omega) (by rw [he]; congr 1; omega) hs
                rw [nI_succ] at ih2
                exact ih2
            · intro h5
              show ab_Z m_Mo_lawTells _ _ _ 62 [_, _, _, _, _, _, _] [] _
              have hB2 : ((evQ (s 112) a).2 || (evQ (s 112) e).2) = true := by
                cases hx : ((evQ (s 112) a).2 || (evQ (s 112) e).2)
                · rw [hx] at f3; exact absurd f3 h5
                · rfl
              rw [hB2, if_pos rfl] at hs
              refine ab_go ok_Mo_lawTells 1 rfl ?_
              show ab_Z m_Mo_lawTells _ _ _ 63 [_, _, _, _, _, _, _] [_] _
              exact ab_rI ok_Mo_lawTells rfl (⟨by rw [← hs], s3, rfl, hk13⟩)
      exact loop n f P _ (Kr.up rfl (Kr.rf w0 s)) (ab_up_s ..) hB h26 h3 rfl
end

