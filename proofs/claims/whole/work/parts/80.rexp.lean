/-! the reference reads an expression: what waits -/
def oB (x : Nat) : Nat := if x = 43 then 2 else if x = 45 then 3 else if x = 42 then 4 else 5
def isO (x : Nat) : Prop := x = 42 ∨ x = 43 ∨ x = 45 ∨ x = 47
def isW (x : Nat) : Prop := x = 40 ∨ isO x
def stpO (b : Bool) (x : Nat) : Bool := decide (x = 40) || (b && (decide (x = 43) || decide (x = 45)))
def flO (b : Bool) : List Nat → List Ins × List Nat
  | [] => ([], [])
  | x :: w => if stpO b x = true then ([], x :: w) else ((oB x, 0) :: (flO b w).1, (flO b w).2)
def fls (p : List Nat) : List Ins := p.map fun x => (oB x, 0)
theorem flO_ap {b : Bool} : ∀ {p w : List Nat}, (∀ x ∈ p, stpO b x = false) → (∀ y r, w = y :: r → stpO b y = true) → flO b (p ++ w) = (fls p, w)
  | [], [], _, _ => rfl
  | [], y :: r, _, h => by
    show flO b (y :: r) = _
    rw [flO, if_pos (h y r rfl)]
    rfl
  | x :: p, w, hp, h => by
    show flO b (x :: (p ++ w)) = _
    rw [flO, if_neg (by rw [hp x (List.mem_cons_self ..)]; decide), flO_ap (fun y hy => hp y (List.mem_cons_of_mem _ hy)) h]
    rfl
theorem flO_len (b : Bool) : ∀ w, (flO b w).1.length + (flO b w).2.length = w.length
  | [] => rfl
  | x :: w => by
    rw [flO]
    split
    · show 0 + (w.length + 1) = w.length + 1
      omega
    · have := flO_len b w
      show (flO b w).1.length + 1 + (flO b w).2.length = w.length + 1
      omega
theorem flO_m (b : Bool) : ∀ w x, x ∈ (flO b w).2 → x ∈ w
  | [], x, h => h
  | y :: w, x, h => by
    rw [flO] at h
    split at h
    · exact h
    · exact List.mem_cons_of_mem _ (flO_m b w x h)
def cdM (s : Nat → Nat → Int32) (x : Nat) (Q : List Ins) : Prop := ∀ j q, Q[j]? = some q → s 109 (x + j) = nI q.1 ∧ s 110 (x + j) = nI q.2
def stM (s : Nat → Nat → Int32) : List Nat → Prop
  | [] => True
  | x :: w => s 111 w.length = nI (rkF x) ∧ stM s w
theorem stM.of {s s' : Nat → Nat → Int32} : ∀ {w : List Nat}, (∀ k, k < w.length → s' 111 k = s 111 k) → stM s w → stM s' w
  | [], _, _ => trivial
  | x :: w, h, g => ⟨(h w.length (Nat.lt_succ_self _)).trans g.1, stM.of (fun k hk => h k (Nat.lt_succ_of_lt hk)) g.2⟩
def XP (s : Nat → Nat → Int32) (c0 : Nat) (C : List Ins) (w : List Nat) (o : Nat) : Prop := s 81 42 = nI (c0 + C.length) ∧ cdM s c0 C ∧ s 81 46 = nI w.length ∧ stM s w ∧ s 81 12 = nI o ∧ ∀ x ∈ w, isW x
theorem XP.of {s s' : Nat → Nat → Int32} {c0 o : Nat} {C : List Ins} {w : List Nat} (h1 : s' 81 42 = s 81 42) (h2 : s' 81 46 = s 81 46) (h3 : s' 81 12 = s 81 12) (h4 : s' 109 = s 109) (h5 : s' 110 = s 110) (h6 : s' 111 = s 111) (h : XP s c0 C w o) : XP s' c0 C w o := by
  obtain ⟨a1, a2, a3, a4, a5, a6⟩ := h
  refine ⟨h1.trans a1, fun j q hq => ?_, h2.trans a3, a4.of (fun k _ => by rw [h6]), h3.trans a5, a6⟩
  rw [h4, h5]
  exact a2 j q hq
theorem XP.j {s s' : Nat → Nat → Int32} {c0 o : Nat} {C : List Ins} {w : List Nat} (k : KJ s s') (h : XP s c0 C w o) : XP s' c0 C w o := h.of (k 81 42 (by omega)) (k 81 46 (by omega)) (k 81 12 (by omega)) (k.n.row (by decide)) (k.n.row (by decide)) (k.n.row (by decide))
def KX (c0 ce : Nat) (s s' : Nat → Nat → Int32) : Prop := ∀ c k, ¬ (c = 81 ∧ (k = 11 ∨ k = 12 ∨ k = 13 ∨ k = 14 ∨ k = 42 ∨ k = 46)) → c ≠ 111 → ¬ ((c = 109 ∨ c = 110) ∧ c0 ≤ k ∧ k < ce) → s' c k = s c k
theorem KX.rf (c0 ce : Nat) (s : Nat → Nat → Int32) : KX c0 ce s s := fun _ _ _ _ _ => rfl
theorem KX.tr {c0 ce : Nat} {a b c : Nat → Nat → Int32} (h : KX c0 ce a b) (g : KX c0 ce b c) : KX c0 ce a c := fun x k p q r => (g x k p q r).trans (h x k p q r)
theorem KJ.x {c0 ce : Nat} {a b : Nat → Nat → Int32} (h : KJ a b) : KX c0 ce a b := fun x k p _ _ => h x k (fun z => p ⟨z.1, by omega⟩)
theorem KX.u {c0 ce : Nat} {a b : Nat → Nat → Int32} {c j : Nat} {x : Int32} (hc : (c = 81 ∧ (j = 11 ∨ j = 12 ∨ j = 13 ∨ j = 14 ∨ j = 42 ∨ j = 46)) ∨ c = 111 ∨ ((c = 109 ∨ c = 110) ∧ c0 ≤ j ∧ j < ce)) (h : KX c0 ce a b) : KX c0 ce a (ab_up b c j x) := fun y k p q r => by
  by_cases h1 : y = c
  · subst h1
    by_cases h2 : k = j
    · subst h2
      rcases hc with z | z | z
      · exact absurd z p
      · exact absurd z q
      · exact absurd z r
    · rw [ab_up_n h2]
      exact h y k p q r
  · rw [ab_up_o h1]
    exact h y k p q r
theorem KX.T {c0 ce : Nat} {s s' : Nat → Nat → Int32} {t : Nat → Nat → Int64} {K P v : Nat → Nat} {nm : Nat → List Nat} (h : KX c0 ce s s') (hT : TM s t K P v nm) : TM s' t K P v nm := by
  have e : ∀ c, c = 84 ∨ c = 85 ∨ c = 86 → s' c = s c := fun c hc => funext fun k => h c k (by omega) (by omega) (by omega)
  exact hT.of (e 84 (by omega)) (e 85 (by omega)) (e 86 (by omega)) rfl
def emS (s : Nat → Nat → Int32) (n : Nat) (k v : Int32) : Nat → Nat → Int32 := ab_up (ab_up (ab_up s 109 n k) 110 n v) 81 42 (nI (n + 1))
theorem emS_k {c0 ce : Nat} (s : Nat → Nat → Int32) {n : Nat} (h0 : c0 ≤ n) (h1 : n < ce) (k v : Int32) : KX c0 ce s (emS s n k v) := KX.u (by omega) (KX.u (by omega) (KX.u (by omega) (KX.rf c0 ce s)))
theorem cdM.add {s : Nat → Nat → Int32} {c0 : Nat} {C : List Ins} (h : cdM s c0 C) (a b : Nat) : cdM (emS s (c0 + C.length) (nI a) (nI b)) c0 (C ++ [(a, b)]) := by
  intro j q hq
  have e9 : emS s (c0 + C.length) (nI a) (nI b) 109 = ab_up s 109 (c0 + C.length) (nI a) 109 := by unfold emS; rw [ab_up_o (show (109 : Nat) ≠ 81 by decide), ab_up_o (show (109 : Nat) ≠ 110 by decide)]
  have e0 : emS s (c0 + C.length) (nI a) (nI b) 110 = ab_up s 110 (c0 + C.length) (nI b) 110 := by
    funext k
    unfold emS
    rw [ab_up_o (show (110 : Nat) ≠ 81 by decide)]
    by_cases hk : k = c0 + C.length
    · subst hk; rw [ab_up_s, ab_up_s]
    · rw [ab_up_n hk, ab_up_n hk, ab_up_o (show (110 : Nat) ≠ 109 by decide)]
  rw [e9, e0]
  by_cases hj : j < C.length
  · rw [List.getElem?_append_left hj] at hq
    rw [ab_up_n (by omega), ab_up_n (by omega)]
    exact h j q hq
  · by_cases hj2 : j = C.length
    · subst hj2
      rw [List.getElem?_append_right (Nat.le_refl _), Nat.sub_self] at hq
      cases hq
      rw [ab_up_s, ab_up_s]
      exact ⟨rfl, rfl⟩
    · have : (C ++ [(a, b)]).length ≤ j := by rw [List.length_append]; simp only [List.length_singleton]; omega
      rw [List.getElem?_eq_none this] at hq
      cases hq
theorem XP.add {s : Nat → Nat → Int32} {c0 o : Nat} {C : List Ins} {w : List Nat} (h : XP s c0 C w o) (a b : Nat) : XP (emS s (c0 + C.length) (nI a) (nI b)) c0 (C ++ [(a, b)]) w o := by
  obtain ⟨a1, a2, a3, a4, a5, a6⟩ := h
  have e : ∀ c k, c ≠ 109 → c ≠ 110 → ¬ (c = 81 ∧ k = 42) → emS s (c0 + C.length) (nI a) (nI b) c k = s c k := fun c k h1 h2 h3 => by
    unfold emS
    by_cases hc : c = 81
    · subst hc
      rw [ab_up_n (fun z => h3 ⟨rfl, z⟩), ab_up_o h2, ab_up_o h1]
    · rw [ab_up_o hc, ab_up_o h2, ab_up_o h1]
  refine ⟨?_, a2.add a b, (e 81 46 (by decide) (by decide) (by decide)).trans a3, a4.of (fun k _ => e 111 k (by decide) (by decide) (by omega)), (e 81 12 (by decide) (by decide) (by decide)).trans a5, a6⟩
  rw [List.length_append]
  exact ab_up_s ..
section
variable (d : Nat) (fm : Value) (X : Nat × (Nat → Int32)) (s : Nat → Nat → Int32) (t : Nat → Nat → Int64)
variable {K P v : Nat → Nat} {nm : Nat → List Nat}
theorem t_Mo_emit {n : Nat} (hn : s 81 42 = nI n) (hn8 : n < 840) (k y : Int32) : ab_T g_Mo_emit d (0, 0) [.ref 81, .int k, .int y] (HA fm X s t) (PV (HA fm X (emS s n k y) t)) := by
  refine ab_T_of (M := m_Mo_emit) rfl rfl (Nat.le_of_ble_eq_true rfl) ?_
  show ab_Z m_Mo_emit _ _ _ 0 [_, _, _] [] _
  refine ab_go ok_Mo_emit 5 rfl ?_
  show ab_Z m_Mo_emit _ _ _ 5 [_, _, _] [_, _, _] _
  rw [hn]
  refine ab_is ok_Mo_emit rfl rfl (k := n) (by first | rfl | (simp only [LL1, LL2, LL3, LL4, LL5, LL6, LL7, LL8, LL10, LL15, LL18, LL20, LL21, LL22, LL23, LL24, LL32, LL39, LL40, LL130, LL420, pk_mul, nI_add]; done) | (simp only [LL1, LL2, LL3, LL4, LL5, LL6, LL7, LL8, LL10, LL15, LL18, LL20, LL21, LL22, LL23, LL24, LL32, LL39, LL40, LL130, LL420, pk_mul, nI_add]; congr 1; omega)) (by omega) (Nat.le_of_ble_eq_true rfl) ?_
  show ab_Z m_Mo_emit _ _ _ 6 [_, _, _] [] _
  refine ab_go ok_Mo_emit 5 rfl ?_
  show ab_Z m_Mo_emit _ _ _ 11 [_, _, _] [_, _, _] _
  rw [show ab_up s 109 n k 81 42 = nI n from by rw [ab_up_o (by decide)]; exact hn]
  refine ab_is ok_Mo_emit rfl rfl (k := n) (by first | rfl | (simp only [LL1, LL2, LL3, LL4, LL5, LL6, LL7, LL8, LL10, LL15, LL18, LL20, LL21, LL22, LL23, LL24, LL32, LL39, LL40, LL130, LL420, pk_mul, nI_add]; done) | (simp only [LL1, LL2, LL3, LL4, LL5, LL6, LL7, LL8, LL10, LL15, LL18, LL20, LL21, LL22, LL23, LL24, LL32, LL39, LL40, LL130, LL420, pk_mul, nI_add]; congr 1; omega)) (by omega) (Nat.le_of_ble_eq_true rfl) ?_
  show ab_Z m_Mo_emit _ _ _ 12 [_, _, _] [] _
  refine ab_go ok_Mo_emit 6 rfl ?_
  show ab_Z m_Mo_emit _ _ _ 18 [_, _, _] [] _
  rw [show ab_up (ab_up s 109 n k) 110 n y 81 42 = nI n from by rw [ab_up_o (by decide), ab_up_o (by decide)]; exact hn]
  exact ab_rV ok_Mo_emit rfl (⟨rfl, by unfold emS; rw [nI_succ]⟩)
theorem t_Mo_comesOut {c0 ce o : Nat} {C : List Ins} {w : List Nat} (hX : XP s c0 C w o) (hb : c0 + C.length + w.length ≤ ce) (he : ce ≤ 840) (hw : w.length ≤ 60) (b : Bool) (z : Int32) (hz : z = bB b) : ab_T g_Mo_comesOut (d + 1) (0, 0) [.ref 81, .int z] (HA fm X s t) (fun r h => r = none ∧ ∃ s', h = HA fm X s' t ∧ KX c0 ce s s' ∧ (∀ k, k ≠ 42 → k ≠ 46 → s' 81 k = s 81 k) ∧ XP s' c0 (C ++ (flO b w).1) (flO b w).2 o) := by
  subst hz
  have main : ∀ w s1 C, c0 + C.length + w.length ≤ ce → w.length ≤ 60 → KX c0 ce s s1 → (∀ k, k ≠ 42 → k ≠ 46 → s1 81 k = s 81 k) → XP s1 c0 C w o → ab_Z m_Mo_comesOut (d + 1) (0, 0) (fun r h => r = none ∧ ∃ s', h = HA fm X s' t ∧ KX c0 ce s s' ∧ (∀ k, k ≠ 42 → k ≠ 46 → s' 81 k = s 81 k) ∧ XP s' c0 (C ++ (flO b w).1) (flO b w).2 o) 0 [some (.ref 81), some (.int (bB b)), none] [] (HA fm X s1 t) := by
    intro w
    induction w with
    | nil =>
      intro s1 C hb hw k1 k2 hX
      refine ab_go ok_Mo_comesOut 2 rfl ?_
      show ab_Z m_Mo_comesOut _ _ _ 2 [_, _, _] [_] _
      rw [hX.2.2.1]
      refine ab_go ok_Mo_comesOut 1 rfl ?_
      show ab_Z m_Mo_comesOut _ _ _ 49 [_, _, _] [] _
      exact ab_rV ok_Mo_comesOut rfl (⟨rfl, s1, rfl, k1, k2, by rw [show (flO b []).1 = [] from rfl, List.append_nil]; exact hX⟩)
    | cons x w ih =>
      intro s1 C hb hw k1 k2 hX
      have hX' := hX
      obtain ⟨a1, a2, a3, ⟨a4, a4'⟩, a5, a6⟩ := hX'
      have hx := a6 x (List.mem_cons_self ..)
      have hlen : (x :: w).length = w.length + 1 := rfl
      rw [hlen] at a3 hb hw
      have hm1 : nI (w.length + 1) - 1 = nI w.length := by rw [show (1 : Int32) = nI 1 from rfl, pk_sub (by omega)]; rfl
      refine ab_go ok_Mo_comesOut 2 rfl ?_
      show ab_Z m_Mo_comesOut _ _ _ 2 [_, _, _] [_] _
      rw [a3]
      refine ab_br ok_Mo_comesOut rfl rfl ?_ ?_
      · intro h1
        show ab_Z m_Mo_comesOut _ _ _ 49 [_, _, _] [] _
        exact absurd h1 (fun z => by have := (nI_leI (show w.length + 1 < 2 ^ 31 by omega) (show 0 < 2 ^ 31 by decide)).mp z; omega)
      · intro h1
        show ab_Z m_Mo_comesOut _ _ _ 3 [_, _, _] [] _
        refine ab_go ok_Mo_comesOut 6 rfl ?_
        show ab_Z m_Mo_comesOut _ _ _ 9 [_, _, _] [_, _] _
        rw [a3, hm1]
        refine ab_ia ok_Mo_comesOut rfl rfl (k := (w.length)) (by first | rfl | (simp only [LL1, LL2, LL3, LL4, LL5, LL6, LL7, LL8, LL10, LL15, LL18, LL20, LL21, LL22, LL23, LL24, LL32, LL39, LL40, LL130, LL420, pk_mul, nI_add]; done) | (simp only [LL1, LL2, LL3, LL4, LL5, LL6, LL7, LL8, LL10, LL15, LL18, LL20, LL21, LL22, LL23, LL24, LL32, LL39, LL40, LL130, LL420, pk_mul, nI_add]; congr 1; omega)) (by omega) (Nat.le_of_ble_eq_true rfl) ?_
        show ab_Z m_Mo_comesOut _ _ _ 10 [_, _, _] [_] _
        rw [a4]
        refine ab_go ok_Mo_comesOut 3 rfl ?_
        show ab_Z m_Mo_comesOut _ _ _ 13 [_, _, _] [_, _] _
        have stop : stpO b x = true → ab_Z m_Mo_comesOut (d + 1) (0, 0) (fun r h => r = none ∧ ∃ s', h = HA fm X s' t ∧ KX c0 ce s s' ∧ (∀ k, k ≠ 42 → k ≠ 46 → s' 81 k = s 81 k) ∧ XP s' c0 (C ++ (flO b (x :: w)).1) (flO b (x :: w)).2 o) 22 [some (.ref 81), some (.int (bB b)), some (.int (nI (rkF x)))] [] (HA fm X s1 t) := by
          intro hs
          rw [show flO b (x :: w) = ([], x :: w) from by rw [flO, if_pos hs], List.append_nil]
          exact ab_rV ok_Mo_comesOut rfl (⟨rfl, s1, rfl, k1, k2, hX⟩)
        have out : ∀ y, y = oB x → stpO b x = false → ab_Z m_Mo_comesOut (d + 1) (0, 0) (fun r h => r = none ∧ ∃ s', h = HA fm X s' t ∧ KX c0 ce s s' ∧ (∀ k, k ≠ 42 → k ≠ 46 → s' 81 k = s 81 k) ∧ XP s' c0 (C ++ (flO b (x :: w)).1) (flO b (x :: w)).2 o) 47 [some (.ref 81), some (.int (bB b)), some (.int (nI (rkF x)))] [.int 0, .int (nI y), .ref 81] (HA fm X (ab_up s1 81 46 (nI w.length)) t) := by
          intro y hy hs
          have hX2 : XP (ab_up s1 81 46 (nI w.length)) c0 C w o := ⟨by rw [ab_up_n (by decide)]; exact a1, fun j q hq => by rw [ab_up_o (by decide), ab_up_o (by decide)]; exact a2 j q hq, ab_up_s .., a4'.of (fun k _ => by rw [ab_up_o (by decide)]), by rw [ab_up_n (by decide)]; exact a5, fun y hy => a6 y (List.mem_cons_of_mem _ hy)⟩
          refine ab_cl ok_Mo_comesOut rfl [_, _, _] [] rfl ⟨_, _, rfl, rfl, Or.inl ⟨_, _, rfl, rfl⟩⟩ (Nat.le_of_ble_eq_true rfl) (t_Mo_emit d fm X _ t hX2.1 (by omega) _ _) ?_
          rintro _ _ ⟨rfl, rfl⟩
          show ab_Z m_Mo_comesOut _ _ _ 48 [_, _, _] [] _
          refine ab_go ok_Mo_comesOut 1 rfl ?_
          show ab_Z m_Mo_comesOut _ _ _ 0 [_, _, _] [] _
          have hr := ih (emS (ab_up s1 81 46 (nI w.length)) (c0 + C.length) (nI y) 0) (C ++ [(y, 0)]) (by rw [List.length_append]; simp only [List.length_singleton]; omega) (by omega) ((k1.u (by omega)).tr (emS_k _ (by omega) (by omega) _ _)) (fun k q1 q2 => by
            unfold emS
            rw [ab_up_n q1, ab_up_o (by decide), ab_up_o (by decide), ab_up_n q2]
            exact k2 k q1 q2) (hX2.add y 0)
          rw [show flO b (x :: w) = ((y, 0) :: (flO b w).1, (flO b w).2) from by rw [flO, if_neg (by rw [hs]; decide), hy]]
          rw [List.append_assoc] at hr
          exact hr
        rcases hx with rfl | rfl | rfl | rfl | rfl
        · refine ab_go ok_Mo_comesOut 1 rfl ?_
          show ab_Z m_Mo_comesOut _ _ _ 22 [_, _, _] [] _
          exact stop rfl
        · refine ab_go ok_Mo_comesOut 1 rfl ?_
          show ab_Z m_Mo_comesOut _ _ _ 14 [_, _, _] [] _
          refine ab_go ok_Mo_comesOut 1 rfl ?_
          show ab_Z m_Mo_comesOut _ _ _ 15 [_, _, _] [_] _
          cases b with
          | false =>
            refine ab_go ok_Mo_comesOut 1 rfl ?_
            show ab_Z m_Mo_comesOut _ _ _ 23 [_, _, _] [] _
            refine ab_go ok_Mo_comesOut 9 rfl ?_
            show ab_Z m_Mo_comesOut _ _ _ 32 [_, _, _] [_, _, _] _
            rw [a3, hm1]
            show ab_Z m_Mo_comesOut _ _ _ 32 [_, _, _] [_, _, _] _
            refine ab_go ok_Mo_comesOut 1 rfl ?_
            show ab_Z m_Mo_comesOut _ _ _ 35 [_, _, _] [_] _
            refine ab_go ok_Mo_comesOut 2 rfl ?_
            show ab_Z m_Mo_comesOut _ _ _ 37 [_, _, _] [_, _, _] _
            refine ab_go ok_Mo_comesOut 1 rfl ?_
            show ab_Z m_Mo_comesOut _ _ _ 40 [_, _, _] [_] _
            refine ab_go ok_Mo_comesOut 2 rfl ?_
            show ab_Z m_Mo_comesOut _ _ _ 42 [_, _, _] [_, _, _] _
            refine ab_go ok_Mo_comesOut 1 rfl ?_
            show ab_Z m_Mo_comesOut _ _ _ 43 [_, _, _] [_] _
            refine ab_go ok_Mo_comesOut 3 rfl ?_
            show ab_Z m_Mo_comesOut _ _ _ 47 [_, _, _] [_, _, _] _
            exact out 4 rfl rfl
          | true =>
            refine ab_go ok_Mo_comesOut 1 rfl ?_
            show ab_Z m_Mo_comesOut _ _ _ 16 [_, _, _] [] _
            refine ab_go ok_Mo_comesOut 2 rfl ?_
            show ab_Z m_Mo_comesOut _ _ _ 18 [_, _, _] [_, _] _
            refine ab_go ok_Mo_comesOut 1 rfl ?_
            show ab_Z m_Mo_comesOut _ _ _ 19 [_, _, _] [] _
            refine ab_go ok_Mo_comesOut 2 rfl ?_
            show ab_Z m_Mo_comesOut _ _ _ 21 [_, _, _] [_, _] _
            refine ab_go ok_Mo_comesOut 1 rfl ?_
            show ab_Z m_Mo_comesOut _ _ _ 23 [_, _, _] [] _
            refine ab_go ok_Mo_comesOut 9 rfl ?_
            show ab_Z m_Mo_comesOut _ _ _ 32 [_, _, _] [_, _, _] _
            rw [a3, hm1]
            show ab_Z m_Mo_comesOut _ _ _ 32 [_, _, _] [_, _, _] _
            refine ab_go ok_Mo_comesOut 1 rfl ?_
            show ab_Z m_Mo_comesOut _ _ _ 35 [_, _, _] [_] _
            refine ab_go ok_Mo_comesOut 2 rfl ?_
            show ab_Z m_Mo_comesOut _ _ _ 37 [_, _, _] [_, _, _] _
            refine ab_go ok_Mo_comesOut 1 rfl ?_
            show ab_Z m_Mo_comesOut _ _ _ 40 [_, _, _] [_] _
            refine ab_go ok_Mo_comesOut 2 rfl ?_
            show ab_Z m_Mo_comesOut _ _ _ 42 [_, _, _] [_, _, _] _
            refine ab_go ok_Mo_comesOut 1 rfl ?_
            show ab_Z m_Mo_comesOut _ _ _ 43 [_, _, _] [_] _
            refine ab_go ok_Mo_comesOut 3 rfl ?_
            show ab_Z m_Mo_comesOut _ _ _ 47 [_, _, _] [_, _, _] _
            exact out 4 rfl rfl
        · refine ab_go ok_Mo_comesOut 1 rfl ?_
          show ab_Z m_Mo_comesOut _ _ _ 14 [_, _, _] [] _
          refine ab_go ok_Mo_comesOut 1 rfl ?_
          show ab_Z m_Mo_comesOut _ _ _ 15 [_, _, _] [_] _
          cases b with
          | false =>
            refine ab_go ok_Mo_comesOut 1 rfl ?_
            show ab_Z m_Mo_comesOut _ _ _ 23 [_, _, _] [] _
            refine ab_go ok_Mo_comesOut 9 rfl ?_
            show ab_Z m_Mo_comesOut _ _ _ 32 [_, _, _] [_, _, _] _
            rw [a3, hm1]
            show ab_Z m_Mo_comesOut _ _ _ 32 [_, _, _] [_, _, _] _
            refine ab_go ok_Mo_comesOut 1 rfl ?_
            show ab_Z m_Mo_comesOut _ _ _ 33 [_, _, _] [_] _
            refine ab_go ok_Mo_comesOut 3 rfl ?_
            show ab_Z m_Mo_comesOut _ _ _ 47 [_, _, _] [_, _, _] _
            exact out 2 rfl rfl
          | true =>
            refine ab_go ok_Mo_comesOut 1 rfl ?_
            show ab_Z m_Mo_comesOut _ _ _ 16 [_, _, _] [] _
            refine ab_go ok_Mo_comesOut 2 rfl ?_
            show ab_Z m_Mo_comesOut _ _ _ 18 [_, _, _] [_, _] _
            refine ab_go ok_Mo_comesOut 1 rfl ?_
            show ab_Z m_Mo_comesOut _ _ _ 22 [_, _, _] [] _
            exact stop rfl
        · refine ab_go ok_Mo_comesOut 1 rfl ?_
          show ab_Z m_Mo_comesOut _ _ _ 14 [_, _, _] [] _
          refine ab_go ok_Mo_comesOut 1 rfl ?_
          show ab_Z m_Mo_comesOut _ _ _ 15 [_, _, _] [_] _
          cases b with
          | false =>
            refine ab_go ok_Mo_comesOut 1 rfl ?_
            show ab_Z m_Mo_comesOut _ _ _ 23 [_, _, _] [] _
            refine ab_go ok_Mo_comesOut 9 rfl ?_
            show ab_Z m_Mo_comesOut _ _ _ 32 [_, _, _] [_, _, _] _
            rw [a3, hm1]
            show ab_Z m_Mo_comesOut _ _ _ 32 [_, _, _] [_, _, _] _
            refine ab_go ok_Mo_comesOut 1 rfl ?_
            show ab_Z m_Mo_comesOut _ _ _ 35 [_, _, _] [_] _
            refine ab_go ok_Mo_comesOut 2 rfl ?_
            show ab_Z m_Mo_comesOut _ _ _ 37 [_, _, _] [_, _, _] _
            refine ab_go ok_Mo_comesOut 1 rfl ?_
            show ab_Z m_Mo_comesOut _ _ _ 38 [_, _, _] [_] _
            refine ab_go ok_Mo_comesOut 3 rfl ?_
            show ab_Z m_Mo_comesOut _ _ _ 47 [_, _, _] [_, _, _] _
            exact out 3 rfl rfl
          | true =>
            refine ab_go ok_Mo_comesOut 1 rfl ?_
            show ab_Z m_Mo_comesOut _ _ _ 16 [_, _, _] [] _
            refine ab_go ok_Mo_comesOut 2 rfl ?_
            show ab_Z m_Mo_comesOut _ _ _ 18 [_, _, _] [_, _] _
            refine ab_go ok_Mo_comesOut 1 rfl ?_
            show ab_Z m_Mo_comesOut _ _ _ 19 [_, _, _] [] _
            refine ab_go ok_Mo_comesOut 2 rfl ?_
            show ab_Z m_Mo_comesOut _ _ _ 21 [_, _, _] [_, _] _
            refine ab_go ok_Mo_comesOut 1 rfl ?_
            show ab_Z m_Mo_comesOut _ _ _ 22 [_, _, _] [] _
            exact stop rfl
        · refine ab_go ok_Mo_comesOut 1 rfl ?_
          show ab_Z m_Mo_comesOut _ _ _ 14 [_, _, _] [] _
          refine ab_go ok_Mo_comesOut 1 rfl ?_
          show ab_Z m_Mo_comesOut _ _ _ 15 [_, _, _] [_] _
          cases b with
          | false =>
            refine ab_go ok_Mo_comesOut 1 rfl ?_
            show ab_Z m_Mo_comesOut _ _ _ 23 [_, _, _] [] _
            refine ab_go ok_Mo_comesOut 9 rfl ?_
            show ab_Z m_Mo_comesOut _ _ _ 32 [_, _, _] [_, _, _] _
            rw [a3, hm1]
            show ab_Z m_Mo_comesOut _ _ _ 32 [_, _, _] [_, _, _] _
            refine ab_go ok_Mo_comesOut 1 rfl ?_
            show ab_Z m_Mo_comesOut _ _ _ 35 [_, _, _] [_] _
            refine ab_go ok_Mo_comesOut 2 rfl ?_
            show ab_Z m_Mo_comesOut _ _ _ 37 [_, _, _] [_, _, _] _
            refine ab_go ok_Mo_comesOut 1 rfl ?_
            show ab_Z m_Mo_comesOut _ _ _ 40 [_, _, _] [_] _
            refine ab_go ok_Mo_comesOut 2 rfl ?_
            show ab_Z m_Mo_comesOut _ _ _ 42 [_, _, _] [_, _, _] _
            refine ab_go ok_Mo_comesOut 1 rfl ?_
            show ab_Z m_Mo_comesOut _ _ _ 45 [_, _, _] [_] _
            refine ab_go ok_Mo_comesOut 2 rfl ?_
            show ab_Z m_Mo_comesOut _ _ _ 47 [_, _, _] [_, _, _] _
            exact out 5 rfl rfl
          | true =>
            refine ab_go ok_Mo_comesOut 1 rfl ?_
            show ab_Z m_Mo_comesOut _ _ _ 16 [_, _, _] [] _
            refine ab_go ok_Mo_comesOut 2 rfl ?_
            show ab_Z m_Mo_comesOut _ _ _ 18 [_, _, _] [_, _] _
            refine ab_go ok_Mo_comesOut 1 rfl ?_
            show ab_Z m_Mo_comesOut _ _ _ 19 [_, _, _] [] _
            refine ab_go ok_Mo_comesOut 2 rfl ?_
            show ab_Z m_Mo_comesOut _ _ _ 21 [_, _, _] [_, _] _
            refine ab_go ok_Mo_comesOut 1 rfl ?_
            show ab_Z m_Mo_comesOut _ _ _ 23 [_, _, _] [] _
            refine ab_go ok_Mo_comesOut 9 rfl ?_
            show ab_Z m_Mo_comesOut _ _ _ 32 [_, _, _] [_, _, _] _
            rw [a3, hm1]
            show ab_Z m_Mo_comesOut _ _ _ 32 [_, _, _] [_, _, _] _
            refine ab_go ok_Mo_comesOut 1 rfl ?_
            show ab_Z m_Mo_comesOut _ _ _ 35 [_, _, _] [_] _
            refine ab_go ok_Mo_comesOut 2 rfl ?_
            show ab_Z m_Mo_comesOut _ _ _ 37 [_, _, _] [_, _, _] _
            refine ab_go ok_Mo_comesOut 1 rfl ?_
            show ab_Z m_Mo_comesOut _ _ _ 40 [_, _, _] [_] _
            refine ab_go ok_Mo_comesOut 2 rfl ?_
            show ab_Z m_Mo_comesOut _ _ _ 42 [_, _, _] [_, _, _] _
            refine ab_go ok_Mo_comesOut 1 rfl ?_
            show ab_Z m_Mo_comesOut _ _ _ 45 [_, _, _] [_] _
            refine ab_go ok_Mo_comesOut 2 rfl ?_
            show ab_Z m_Mo_comesOut _ _ _ 47 [_, _, _] [_, _, _] _
            exact out 5 rfl rfl
  refine ab_T_of (M := m_Mo_comesOut) rfl rfl (Nat.le_of_ble_eq_true rfl) ?_
  show ab_Z m_Mo_comesOut _ _ _ 0 [_, _, _] [] _
  exact main w s C hb hw (KX.rf c0 ce s) (fun _ _ _ => rfl) hX
end

