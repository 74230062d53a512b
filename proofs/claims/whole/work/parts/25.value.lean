def evQ (v : Nat → Int32) (Q : List Ins) : Int32 × Bool := ((runI v (fun _ => 0, 0, false) Q).1 0, (runI v (fun _ => 0, 0, false) Q).2.2)
def finQ (v : Nat → Int32) (Q : List Ins) : Int32 := if (evQ v Q).2 then 0 else (evQ v Q).1
/-- what a law says: tests in threes, then the last one -/
def lawSem (v : Nat → Int32) : List (List Ins) → Int32
  | a :: b :: c :: e :: r => if (evQ v a).2 || (evQ v b).2 then 0 else if (evQ v a).1 < (evQ v b).1 then finQ v c else lawSem v (e :: r)
  | c :: _ => finQ v c
  | [] => 0
theorem runI_sim (v : Nat → Int32) : ∀ (Q : List Ins) (z y : Stk) (b : Bool), z.2.1 = y.2.1 → (∀ q, q < y.2.1 → z.1 q = y.1 q) → z.2.2 = (b || y.2.2) → okQ Q y.2.1 → (runI v z Q).2.1 = (runI v y Q).2.1 ∧ (∀ q, q < (runI v y Q).2.1 → (runI v z Q).1 q = (runI v y Q).1 q) ∧ (runI v z Q).2.2 = (b || (runI v y Q).2.2)
  | [], z, y, b, h1, h2, h3, _ => ⟨h1, h2, h3⟩
  | (k, n) :: Q, z, y, b, h1, h2, h3, ok => by
    have hs := runI_sim v Q (stpI v z (k, n)) (stpI v y (k, n)) b
    refine hs (by rw [stpI_h, stpI_h, h1]) ?_ ?_ (by rw [stpI_h]; exact ok.2)
    · intro q hq
      rw [stpI_h] at hq
      match k, ok, hq with
      | 0, ok, hq =>
        show upd z.1 z.2.1 (nI n) q = upd y.1 y.2.1 (nI n) q
        rw [h1]
        unfold upd
        split
        · rfl
        · exact h2 q (by have : q < y.2.1 + 1 := hq; omega)
      | 1, ok, hq =>
        show upd z.1 z.2.1 (v n) q = upd y.1 y.2.1 (v n) q
        rw [h1]
        unfold upd
        split
        · rfl
        · exact h2 q (by have : q < y.2.1 + 1 := hq; omega)
      | k + 2, ok, hq =>
        have o1 : 2 ≤ y.2.1 := ok.1.1
        rw [if_neg (by show ¬ k + 2 < 2; omega)] at hq
        show upd z.1 (z.2.1 - 2) (opF (k + 2) (z.1 (z.2.1 - 2)) (z.1 (z.2.1 - 1))) q = upd y.1 (y.2.1 - 2) (opF (k + 2) (y.1 (y.2.1 - 2)) (y.1 (y.2.1 - 1))) q
        rw [h1, h2 _ (show y.2.1 - 2 < y.2.1 by omega), h2 _ (show y.2.1 - 1 < y.2.1 by omega)]
        unfold upd
        split
        · rfl
        · exact h2 q (by omega)
    · match k, ok with
      | 0, ok => exact h3
      | 1, ok => exact h3
      | k + 2, ok =>
        have o1 : 2 ≤ y.2.1 := ok.1.1
        show (z.2.2 || (decide (4 < k + 2) && decide (z.1 (z.2.1 - 1) = 0))) = (b || (y.2.2 || (decide (4 < k + 2) && decide (y.1 (y.2.1 - 1) = 0))))
        rw [h1, h3, h2 _ (show y.2.1 - 1 < y.2.1 by omega), Bool.or_assoc]
theorem okQ_end (v : Nat → Int32) : ∀ (Q : List Ins) (z : Stk), okQ Q z.2.1 → (runI v z Q).2.1 = 1
  | [], _, h => h
  | q :: Q, z, h => okQ_end v Q (stpI v z q) (by rw [stpI_h]; exact h.2)
theorem runI_ev (v : Nat → Int32) (Q : List Ins) (f : Nat → Int32) (b : Bool) (ok : okQ Q 0) : (runI v (f, 0, b) Q).1 0 = (evQ v Q).1 ∧ (runI v (f, 0, b) Q).2.2 = (b || (evQ v Q).2) := by
  obtain ⟨-, h2, h3⟩ := runI_sim v Q (f, 0, b) (fun _ => 0, 0, false) b rfl (fun q h => absurd h (Nat.not_lt_zero q)) (by simp) ok
  exact ⟨h2 0 (by rw [okQ_end v Q _ ok]; omega), h3⟩
def ofL (P : List (List Ins)) (i : Nat) : Nat := (P.take i).flatten.length
theorem ofL_succ {P : List (List Ins)} {i : Nat} {Q : List Ins} (h : P[i]? = some Q) : ofL P (i + 1) = ofL P i + Q.length := by
  unfold ofL
  rw [List.take_add_one, h]
  simp
theorem ofL_le (P : List (List Ins)) : ∀ i, ofL P i ≤ P.flatten.length := by
  intro i
  unfold ofL
  have h : P.flatten = (P.take i).flatten ++ (P.drop i).flatten := by rw [← List.flatten_append, List.take_append_drop]
  rw [h, List.length_append]
  omega
/-- a law of the class, at place p (its code, ends, stack behind it), holds these parts -/
def CLaw (s : Nat → Nat → Int32) (p : Nat) (P : List (List Ins)) : Prop := s p 4 = nI P.length ∧ 1 ≤ P.length ∧ P.length ≤ 13 ∧ P.flatten.length ≤ 400 ∧ (∀ i, i < P.length → s (p + 2) i = nI (ofL P (i + 1))) ∧ (∀ i Q, P[i]? = some Q → ∀ j q, Q[j]? = some q → s (p + 1) (ofL P i + j) = encI q) ∧ ∀ Q ∈ P, okQ Q 0
theorem lpH_0 (s : Nat → Nat → Int32) (p : Nat) : ab_up s p 5 0 = lpH s p (s (p + 3), 0, false) := by
  funext c j
  unfold lpH
  by_cases h2 : c = p
  · subst h2
    by_cases h5 : j = 5
    · subst h5
      rw [ab_up_s, ab_up_s]
      rfl
    · rw [ab_up_n h5, ab_up_n h5, ab_ro_o (by omega)]
  · rw [ab_up_o h2, ab_up_o h2]
    by_cases h1 : c = p + 3
    · subst h1
      rw [ab_ro_c]
    · rw [ab_ro_o h1]
section
variable (d : Nat) (fm : Value) (X : Nat × (Nat → Int32)) (s : Nat → Nat → Int32) (t : Nat → Nat → Int64)
theorem t_La_partOf'_22 {P : List (List Ins)} (hL : CLaw s 22 P) {i : Nat} {Q : List Ins} (hQ : P[i]? = some Q) (f : Nat → Int32) (b : Bool) : ab_T g_La_partOf (d + 1) (0, 0) [.ref 22, .int (nI i), .ref 12] (HA fm X (lpH s 22 (f, 0, b)) t) (fun v h => v = some (.int (evQ (s 12) Q).1) ∧ ∃ g, h = HA fm X (lpH s 22 (g, 0, b || (evQ (s 12) Q).2)) t) := by
  obtain ⟨l1, l2, l3, l4, l5, l6, l7⟩ := hL
  have hi : i < P.length := (List.getElem?_eq_some_iff.mp hQ).1
  have ok := l7 Q (List.mem_of_getElem? hQ)
  have h1 := t_La_partOf_22 d fm X s t (f, 0, b) (a := ofL P i) (b := ofL P (i + 1)) (i := i) Q rfl (by omega) (l5 i hi) (by
    split
    · rename_i z; subst z; rfl
    · have := l5 (i - 1) (by omega)
      rw [show i - 1 + 1 = i by omega] at this
      exact this) (ofL_succ hQ) (Nat.le_trans (ofL_le P _) l4) (l6 i Q hQ) ok
  obtain ⟨e1, e2⟩ := runI_ev (s 12) Q f b ok
  refine ab_T_mono h1 fun v h hp => ?_
  obtain ⟨rfl, rfl⟩ := hp
  refine ⟨by rw [e1], (runI (s 12) (f, 0, b) Q).1, ?_⟩
  show HA fm X (lpH s 22 (runI (s 12) (f, 0, b) Q)) t = _
  unfold lpH
  rw [e2]
theorem t_La_partOf'_26 {P : List (List Ins)} (hL : CLaw s 26 P) {i : Nat} {Q : List Ins} (hQ : P[i]? = some Q) (f : Nat → Int32) (b : Bool) : ab_T g_La_partOf (d + 1) (0, 0) [.ref 26, .int (nI i), .ref 12] (HA fm X (lpH s 26 (f, 0, b)) t) (fun v h => v = some (.int (evQ (s 12) Q).1) ∧ ∃ g, h = HA fm X (lpH s 26 (g, 0, b || (evQ (s 12) Q).2)) t) := by
  obtain ⟨l1, l2, l3, l4, l5, l6, l7⟩ := hL
  have hi : i < P.length := (List.getElem?_eq_some_iff.mp hQ).1
  have ok := l7 Q (List.mem_of_getElem? hQ)
  have h1 := t_La_partOf_26 d fm X s t (f, 0, b) (a := ofL P i) (b := ofL P (i + 1)) (i := i) Q rfl (by omega) (l5 i hi) (by
    split
    · rename_i z; subst z; rfl
    · have := l5 (i - 1) (by omega)
      rw [show i - 1 + 1 = i by omega] at this
      exact this) (ofL_succ hQ) (Nat.le_trans (ofL_le P _) l4) (l6 i Q hQ) ok
  obtain ⟨e1, e2⟩ := runI_ev (s 12) Q f b ok
  refine ab_T_mono h1 fun v h hp => ?_
  obtain ⟨rfl, rfl⟩ := hp
  refine ⟨by rw [e1], (runI (s 12) (f, 0, b) Q).1, ?_⟩
  show HA fm X (lpH s 26 (runI (s 12) (f, 0, b) Q)) t = _
  unfold lpH
  rw [e2]
theorem t_La_partOf'_30 {P : List (List Ins)} (hL : CLaw s 30 P) {i : Nat} {Q : List Ins} (hQ : P[i]? = some Q) (f : Nat → Int32) (b : Bool) : ab_T g_La_partOf (d + 1) (0, 0) [.ref 30, .int (nI i), .ref 12] (HA fm X (lpH s 30 (f, 0, b)) t) (fun v h => v = some (.int (evQ (s 12) Q).1) ∧ ∃ g, h = HA fm X (lpH s 30 (g, 0, b || (evQ (s 12) Q).2)) t) := by
  obtain ⟨l1, l2, l3, l4, l5, l6, l7⟩ := hL
  have hi : i < P.length := (List.getElem?_eq_some_iff.mp hQ).1
  have ok := l7 Q (List.mem_of_getElem? hQ)
  have h1 := t_La_partOf_30 d fm X s t (f, 0, b) (a := ofL P i) (b := ofL P (i + 1)) (i := i) Q rfl (by omega) (l5 i hi) (by
    split
    · rename_i z; subst z; rfl
    · have := l5 (i - 1) (by omega)
      rw [show i - 1 + 1 = i by omega] at this
      exact this) (ofL_succ hQ) (Nat.le_trans (ofL_le P _) l4) (l6 i Q hQ) ok
  obtain ⟨e1, e2⟩ := runI_ev (s 12) Q f b ok
  refine ab_T_mono h1 fun v h hp => ?_
  obtain ⟨rfl, rfl⟩ := hp
  refine ⟨by rw [e1], (runI (s 12) (f, 0, b) Q).1, ?_⟩
  show HA fm X (lpH s 30 (runI (s 12) (f, 0, b) Q)) t = _
  unfold lpH
  rw [e2]
theorem t_La_partOf'_34 {P : List (List Ins)} (hL : CLaw s 34 P) {i : Nat} {Q : List Ins} (hQ : P[i]? = some Q) (f : Nat → Int32) (b : Bool) : ab_T g_La_partOf (d + 1) (0, 0) [.ref 34, .int (nI i), .ref 12] (HA fm X (lpH s 34 (f, 0, b)) t) (fun v h => v = some (.int (evQ (s 12) Q).1) ∧ ∃ g, h = HA fm X (lpH s 34 (g, 0, b || (evQ (s 12) Q).2)) t) := by
  obtain ⟨l1, l2, l3, l4, l5, l6, l7⟩ := hL
  have hi : i < P.length := (List.getElem?_eq_some_iff.mp hQ).1
  have ok := l7 Q (List.mem_of_getElem? hQ)
  have h1 := t_La_partOf_34 d fm X s t (f, 0, b) (a := ofL P i) (b := ofL P (i + 1)) (i := i) Q rfl (by omega) (l5 i hi) (by
    split
    · rename_i z; subst z; rfl
    · have := l5 (i - 1) (by omega)
      rw [show i - 1 + 1 = i by omega] at this
      exact this) (ofL_succ hQ) (Nat.le_trans (ofL_le P _) l4) (l6 i Q hQ) ok
  obtain ⟨e1, e2⟩ := runI_ev (s 12) Q f b ok
  refine ab_T_mono h1 fun v h hp => ?_
  obtain ⟨rfl, rfl⟩ := hp
  refine ⟨by rw [e1], (runI (s 12) (f, 0, b) Q).1, ?_⟩
  show HA fm X (lpH s 34 (runI (s 12) (f, 0, b) Q)) t = _
  unfold lpH
  rw [e2]
theorem t_La_valueOf_22 {P : List (List Ins)} (hL : CLaw s 22 P) : ab_T g_La_valueOf (d + 2) (0, 0) [.ref 22, .ref 12] (HA fm X s t) (fun v h => v = some (.int (lawSem (s 12) P)) ∧ ∃ g b, h = HA fm X (lpH s 22 (g, 0, b)) t) := by
  have fin : ∀ i Q f x, P[i]? = some Q → finQ (s 12) Q = lawSem (s 12) P → ab_Z m_La_valueOf (d + 2) (0, 0) (fun v h => v = some (.int (lawSem (s 12) P)) ∧ ∃ g b, h = HA fm X (lpH s 22 (g, 0, b)) t) 37 [some (.ref 22), some (.ref 12), some (.int (nI i)), x] [] (HA fm X (lpH s 22 (f, 0, false)) t) := by
    intro i Q f x hQ hF
    refine ab_go ok_La_valueOf 3 rfl ?_
    show ab_Z m_La_valueOf _ _ _ 40 [_, _, _, _] [_, _, _] _
    refine ab_cl ok_La_valueOf rfl [_, _, _] [] rfl ⟨_, _, rfl, rfl, Or.inl ⟨_, _, rfl, rfl⟩⟩ (Nat.le_of_ble_eq_true rfl) (t_La_partOf'_22 d fm X s t hL hQ f false) ?_
    rintro _ _ ⟨rfl, g, rfl⟩
    show ab_Z m_La_valueOf _ _ _ 41 [_, _, _, _] [_] _
    refine ab_go ok_La_valueOf 3 rfl ?_
    show ab_Z m_La_valueOf _ _ _ 44 [_, _, _, _] [_] _
    rw [show (false || (evQ (s 12) Q).2) = (evQ (s 12) Q).2 from rfl, lpH_b5]
    unfold finQ at hF
    rcases Bool.eq_false_or_eq_true (evQ (s 12) Q).2 with hb | hb
    · rw [hb] at hF ⊢
      refine ab_go ok_La_valueOf 1 rfl ?_
      show ab_Z m_La_valueOf _ _ _ 45 [_, _, _, _] [] _
      refine ab_go ok_La_valueOf 2 rfl ?_
      show ab_Z m_La_valueOf _ _ _ 48 [_, _, _, _] [_] _
      exact ab_rI ok_La_valueOf rfl (⟨by rw [← hF]; rfl, g, true, rfl⟩)
    · rw [hb] at hF ⊢
      refine ab_go ok_La_valueOf 1 rfl ?_
      show ab_Z m_La_valueOf _ _ _ 47 [_, _, _, _] [] _
      refine ab_go ok_La_valueOf 1 rfl ?_
      show ab_Z m_La_valueOf _ _ _ 48 [_, _, _, _] [_] _
      exact ab_rI ok_La_valueOf rfl (⟨by rw [← hF]; rfl, g, false, rfl⟩)
  have loop : ∀ n i f, i < P.length → P.length - i < n → lawSem (s 12) (P.drop i) = lawSem (s 12) P → ab_Z m_La_valueOf (d + 2) (0, 0) (fun v h => v = some (.int (lawSem (s 12) P)) ∧ ∃ g b, h = HA fm X (lpH s 22 (g, 0, b)) t) 5 [some (.ref 22), some (.ref 12), some (.int (nI i)), none] [] (HA fm X (lpH s 22 (f, 0, false)) t) := by
    intro n
    induction n with
    | zero => intro i f hi hlt _; omega
    | succ n ih =>
      intro i f hi hlt hs
      refine ab_go ok_La_valueOf 5 rfl ?_
      show ab_Z m_La_valueOf _ _ _ 10 [_, _, _, _] [_, _] _
      rw [L3, nI_add, lpH_f s 22 _ (by decide), hL.1]
      refine ab_br ok_La_valueOf rfl rfl ?_ ?_
      · intro h1
        show ab_Z m_La_valueOf _ _ _ 37 [_, _, _, _] [] _
        have hl : P.length ≤ i + 3 := Nat.le_of_not_lt fun z => nI_ge z (by have := hL.2.2.1; omega) h1
        obtain ⟨Q, hQ⟩ : ∃ Q, P[i]? = some Q := ⟨P[i], List.getElem?_eq_getElem hi⟩
        refine fin i Q f _ hQ ?_
        rw [← hs]
        have hd : P.drop i = Q :: P.drop (i + 1) := by
          rw [List.drop_eq_getElem_cons hi]
          rw [List.getElem?_eq_getElem hi] at hQ
          rw [Option.some.inj hQ]
        have hln : (P.drop (i + 1)).length ≤ 2 := by rw [List.length_drop]; omega
        rw [hd]
        match hr : P.drop (i + 1), hln with
        | [], _ => rfl
        | [_], _ => rfl
        | [_, _], _ => rfl
      · intro h1
        show ab_Z m_La_valueOf _ _ _ 11 [_, _, _, _] [] _
        have hl : i + 3 < P.length := Nat.lt_of_not_le fun z => h1 (nI_le z (by have := hL.2.2.1; omega))
        obtain ⟨a, ha⟩ : ∃ Q, P[i]? = some Q := ⟨P[i], List.getElem?_eq_getElem hi⟩
        obtain ⟨b, hb⟩ : ∃ Q, P[i + 1]? = some Q := ⟨P[i + 1], List.getElem?_eq_getElem (by omega)⟩
        obtain ⟨c, hc⟩ : ∃ Q, P[i + 2]? = some Q := ⟨P[i + 2], List.getElem?_eq_getElem (by omega)⟩
        obtain ⟨e, he⟩ : ∃ Q, P[i + 3]? = some Q := ⟨P[i + 3], List.getElem?_eq_getElem (by omega)⟩
        have dr : ∀ j Q, P[j]? = some Q → P.drop j = Q :: P.drop (j + 1) := by
          intro j Q hj
          have hjl := (List.getElem?_eq_some_iff.mp hj).1
          rw [List.drop_eq_getElem_cons hjl]
          rw [List.getElem?_eq_getElem hjl] at hj
          rw [Option.some.inj hj]
        rw [dr _ _ ha, dr _ _ hb, dr _ _ hc, dr _ _ he] at hs
        have hrest : P.drop (i + 3) = e :: P.drop (i + 3 + 1) := dr _ _ he
        rw [lawSem] at hs
        refine ab_go ok_La_valueOf 3 rfl ?_
        show ab_Z m_La_valueOf _ _ _ 14 [_, _, _, _] [_, _, _] _
        refine ab_cl ok_La_valueOf rfl [_, _, _] [] rfl ⟨_, _, rfl, rfl, Or.inl ⟨_, _, rfl, rfl⟩⟩ (Nat.le_of_ble_eq_true rfl) (t_La_partOf'_22 d fm X s t hL ha f false) ?_
        rintro _ _ ⟨rfl, g1, rfl⟩
        show ab_Z m_La_valueOf _ _ _ 15 [_, _, _, _] [_] _
        refine ab_go ok_La_valueOf 5 rfl ?_
        show ab_Z m_La_valueOf _ _ _ 20 [_, _, _, _] [_, _, _, _] _
        rw [← nI_succ]
        refine ab_cl ok_La_valueOf rfl [_, _, _] [_] rfl ⟨_, _, rfl, rfl, Or.inl ⟨_, _, rfl, rfl⟩⟩ (Nat.le_of_ble_eq_true rfl) (t_La_partOf'_22 d fm X s t hL hb g1 _) ?_
        rintro _ _ ⟨rfl, g2, rfl⟩
        show ab_Z m_La_valueOf _ _ _ 21 [_, _, _, _] [_, _] _
        rw [show (false || (evQ (s 12) a).2 || (evQ (s 12) b).2) = ((evQ (s 12) a).2 || (evQ (s 12) b).2) from rfl]
        rcases Bool.eq_false_or_eq_true ((evQ (s 12) a).2 || (evQ (s 12) b).2) with hB | hB
        · rw [hB] at hs ⊢
          refine ab_br ok_La_valueOf rfl rfl ?_ ?_
          · intro h2
            show ab_Z m_La_valueOf _ _ _ 24 [_, _, _, _] [] _
            refine ab_go ok_La_valueOf 4 rfl ?_
            show ab_Z m_La_valueOf _ _ _ 28 [_, _, _, _] [_] _
            rw [lpH_b5]
            refine ab_go ok_La_valueOf 1 rfl ?_
            show ab_Z m_La_valueOf _ _ _ 29 [_, _, _, _] [] _
            refine ab_go ok_La_valueOf 1 rfl ?_
            show ab_Z m_La_valueOf _ _ _ 30 [_, _, _, _] [_] _
            exact ab_rI ok_La_valueOf rfl (⟨by rw [← hs]; rfl, g2, true, rfl⟩)
          · intro h2
            show ab_Z m_La_valueOf _ _ _ 22 [_, _, _, _] [] _
            refine ab_go ok_La_valueOf 5 rfl ?_
            show ab_Z m_La_valueOf _ _ _ 28 [_, _, _, _] [_] _
            rw [lpH_b5]
            refine ab_go ok_La_valueOf 1 rfl ?_
            show ab_Z m_La_valueOf _ _ _ 29 [_, _, _, _] [] _
            refine ab_go ok_La_valueOf 1 rfl ?_
            show ab_Z m_La_valueOf _ _ _ 30 [_, _, _, _] [_] _
            exact ab_rI ok_La_valueOf rfl (⟨by rw [← hs]; rfl, g2, true, rfl⟩)
        · rw [hB, if_neg (by decide)] at hs
          rw [hB]
          refine ab_br ok_La_valueOf rfl rfl ?_ ?_
          · intro h2
            show ab_Z m_La_valueOf _ _ _ 24 [_, _, _, _] [] _
            refine ab_go ok_La_valueOf 4 rfl ?_
            show ab_Z m_La_valueOf _ _ _ 28 [_, _, _, _] [_] _
            rw [lpH_b5]
            refine ab_go ok_La_valueOf 1 rfl ?_
            show ab_Z m_La_valueOf _ _ _ 31 [_, _, _, _] [] _
            refine ab_go ok_La_valueOf 1 rfl ?_
            show ab_Z m_La_valueOf _ _ _ 32 [_, _, _, _] [_] _
            refine ab_go ok_La_valueOf 1 rfl ?_
            show ab_Z m_La_valueOf _ _ _ 35 [_, _, _, _] [] _
            refine ab_go ok_La_valueOf 2 rfl ?_
            show ab_Z m_La_valueOf _ _ _ 5 [_, _, _, _] [] _
            rw [L3, nI_add]
            rw [if_neg (fun z => absurd (i_lt z) (by have := i_le h2; omega))] at hs
            exact ih (i + 3) g2 (by omega) (by omega) (by rw [hrest]; exact hs)
          · intro h2
            show ab_Z m_La_valueOf _ _ _ 22 [_, _, _, _] [] _
            refine ab_go ok_La_valueOf 5 rfl ?_
            show ab_Z m_La_valueOf _ _ _ 28 [_, _, _, _] [_] _
            rw [lpH_b5]
            refine ab_go ok_La_valueOf 1 rfl ?_
            show ab_Z m_La_valueOf _ _ _ 31 [_, _, _, _] [] _
            refine ab_go ok_La_valueOf 1 rfl ?_
            show ab_Z m_La_valueOf _ _ _ 32 [_, _, _, _] [_] _
            refine ab_go ok_La_valueOf 1 rfl ?_
            show ab_Z m_La_valueOf _ _ _ 33 [_, _, _, _] [] _
            refine ab_go ok_La_valueOf 2 rfl ?_
            show ab_Z m_La_valueOf _ _ _ 37 [_, _, _, _] [] _
            rw [L2, nI_add]
            rw [if_pos (Int32.lt_iff_toInt_lt.mpr (i_nle h2))] at hs
            exact fin (i + 2) c g2 _ hc hs
  refine ab_T_of (M := m_La_valueOf) rfl rfl (Nat.le_of_ble_eq_true rfl) ?_
  show ab_Z m_La_valueOf _ _ _ 0 [_, _, _, _] [] _
  refine ab_go ok_La_valueOf 2 rfl ?_
  show ab_Z m_La_valueOf _ _ _ 2 [_, _, _, _] [_, _] _
  refine ab_go ok_La_valueOf 1 rfl ?_
  show ab_Z m_La_valueOf _ _ _ 3 [_, _, _, _] [] _
  rw [lpH_0]
  refine ab_go ok_La_valueOf 2 rfl ?_
  show ab_Z m_La_valueOf _ _ _ 5 [_, _, _, _] [] _
  exact loop (P.length + 1) 0 _ (by have := hL.2.1; omega) (by omega) rfl
theorem t_La_valueOf_26 {P : List (List Ins)} (hL : CLaw s 26 P) : ab_T g_La_valueOf (d + 2) (0, 0) [.ref 26, .ref 12] (HA fm X s t) (fun v h => v = some (.int (lawSem (s 12) P)) ∧ ∃ g b, h = HA fm X (lpH s 26 (g, 0, b)) t) := by
  have fin : ∀ i Q f x, P[i]? = some Q → finQ (s 12) Q = lawSem (s 12) P → ab_Z m_La_valueOf (d + 2) (0, 0) (fun v h => v = some (.int (lawSem (s 12) P)) ∧ ∃ g b, h = HA fm X (lpH s 26 (g, 0, b)) t) 37 [some (.ref 26), some (.ref 12), some (.int (nI i)), x] [] (HA fm X (lpH s 26 (f, 0, false)) t) := by
    intro i Q f x hQ hF
    refine ab_go ok_La_valueOf 3 rfl ?_
    show ab_Z m_La_valueOf _ _ _ 40 [_, _, _, _] [_, _, _] _
    refine ab_cl ok_La_valueOf rfl [_, _, _] [] rfl ⟨_, _, rfl, rfl, Or.inl ⟨_, _, rfl, rfl⟩⟩ (Nat.le_of_ble_eq_true rfl) (t_La_partOf'_26 d fm X s t hL hQ f false) ?_
    rintro _ _ ⟨rfl, g, rfl⟩
    show ab_Z m_La_valueOf _ _ _ 41 [_, _, _, _] [_] _
    refine ab_go ok_La_valueOf 3 rfl ?_
    show ab_Z m_La_valueOf _ _ _ 44 [_, _, _, _] [_] _
    rw [show (false || (evQ (s 12) Q).2) = (evQ (s 12) Q).2 from rfl, lpH_b5]
    unfold finQ at hF
    rcases Bool.eq_false_or_eq_true (evQ (s 12) Q).2 with hb | hb
    · rw [hb] at hF ⊢
      refine ab_go ok_La_valueOf 1 rfl ?_
      show ab_Z m_La_valueOf _ _ _ 45 [_, _, _, _] [] _
      refine ab_go ok_La_valueOf 2 rfl ?_
      show ab_Z m_La_valueOf _ _ _ 48 [_, _, _, _] [_] _
      exact ab_rI ok_La_valueOf rfl (⟨by rw [← hF]; rfl, g, true, rfl⟩)
    · rw [hb] at hF ⊢
      refine ab_go ok_La_valueOf 1 rfl ?_
      show ab_Z m_La_valueOf _ _ _ 47 [_, _, _, _] [] _
      refine ab_go ok_La_valueOf 1 rfl ?_
      show ab_Z m_La_valueOf _ _ _ 48 [_, _, _, _] [_] _
      exact ab_rI ok_La_valueOf rfl (⟨by rw [← hF]; rfl, g, false, rfl⟩)
  have loop : ∀ n i f, i < P.length → P.length - i < n → lawSem (s 12) (P.drop i) = lawSem (s 12) P → ab_Z m_La_valueOf (d + 2) (0, 0) (fun v h => v = some (.int (lawSem (s 12) P)) ∧ ∃ g b, h = HA fm X (lpH s 26 (g, 0, b)) t) 5 [some (.ref 26), some (.ref 12), some (.int (nI i)), none] [] (HA fm X (lpH s 26 (f, 0, false)) t) := by
    intro n
    induction n with
    | zero => intro i f hi hlt _; omega
    | succ n ih =>
      intro i f hi hlt hs
      refine ab_go ok_La_valueOf 5 rfl ?_
      show ab_Z m_La_valueOf _ _ _ 10 [_, _, _, _] [_, _] _
      rw [L3, nI_add, lpH_f s 26 _ (by decide), hL.1]
      refine ab_br ok_La_valueOf rfl rfl ?_ ?_
      · intro h1
        show ab_Z m_La_valueOf _ _ _ 37 [_, _, _, _] [] _
        have hl : P.length ≤ i + 3 := Nat.le_of_not_lt fun z => nI_ge z (by have := hL.2.2.1; omega) h1
        obtain ⟨Q, hQ⟩ : ∃ Q, P[i]? = some Q := ⟨P[i], List.getElem?_eq_getElem hi⟩
        refine fin i Q f _ hQ ?_
        rw [← hs]
        have hd : P.drop i = Q :: P.drop (i + 1) := by
          rw [List.drop_eq_getElem_cons hi]
          rw [List.getElem?_eq_getElem hi] at hQ
          rw [Option.some.inj hQ]
        have hln : (P.drop (i + 1)).length ≤ 2 := by rw [List.length_drop]; omega
        rw [hd]
        match hr : P.drop (i + 1), hln with
        | [], _ => rfl
        | [_], _ => rfl
        | [_, _], _ => rfl
      · intro h1
        show ab_Z m_La_valueOf _ _ _ 11 [_, _, _, _] [] _
        have hl : i + 3 < P.length := Nat.lt_of_not_le fun z => h1 (nI_le z (by have := hL.2.2.1; omega))
        obtain ⟨a, ha⟩ : ∃ Q, P[i]? = some Q := ⟨P[i], List.getElem?_eq_getElem hi⟩
        obtain ⟨b, hb⟩ : ∃ Q, P[i + 1]? = some Q := ⟨P[i + 1], List.getElem?_eq_getElem (by omega)⟩
        obtain ⟨c, hc⟩ : ∃ Q, P[i + 2]? = some Q := ⟨P[i + 2], List.getElem?_eq_getElem (by omega)⟩
        obtain ⟨e, he⟩ : ∃ Q, P[i + 3]? = some Q := ⟨P[i + 3], List.getElem?_eq_getElem (by omega)⟩
        have dr : ∀ j Q, P[j]? = some Q → P.drop j = Q :: P.drop (j + 1) := by
          intro j Q hj
          have hjl := (List.getElem?_eq_some_iff.mp hj).1
          rw [List.drop_eq_getElem_cons hjl]
          rw [List.getElem?_eq_getElem hjl] at hj
          rw [Option.some.inj hj]
        rw [dr _ _ ha, dr _ _ hb, dr _ _ hc, dr _ _ he] at hs
        have hrest : P.drop (i + 3) = e :: P.drop (i + 3 + 1) := dr _ _ he
        rw [lawSem] at hs
        refine ab_go ok_La_valueOf 3 rfl ?_
        show ab_Z m_La_valueOf _ _ _ 14 [_, _, _, _] [_, _, _] _
        refine ab_cl ok_La_valueOf rfl [_, _, _] [] rfl ⟨_, _, rfl, rfl, Or.inl ⟨_, _, rfl, rfl⟩⟩ (Nat.le_of_ble_eq_true rfl) (t_La_partOf'_26 d fm X s t hL ha f false) ?_
        rintro _ _ ⟨rfl, g1, rfl⟩
        show ab_Z m_La_valueOf _ _ _ 15 [_, _, _, _] [_] _
        refine ab_go ok_La_valueOf 5 rfl ?_
        show ab_Z m_La_valueOf _ _ _ 20 [_, _, _, _] [_, _, _, _] _
        rw [← nI_succ]
        refine ab_cl ok_La_valueOf rfl [_, _, _] [_] rfl ⟨_, _, rfl, rfl, Or.inl ⟨_, _, rfl, rfl⟩⟩ (Nat.le_of_ble_eq_true rfl) (t_La_partOf'_26 d fm X s t hL hb g1 _) ?_
        rintro _ _ ⟨rfl, g2, rfl⟩
        show ab_Z m_La_valueOf _ _ _ 21 [_, _, _, _] [_, _] _
        rw [show (false || (evQ (s 12) a).2 || (evQ (s 12) b).2) = ((evQ (s 12) a).2 || (evQ (s 12) b).2) from rfl]
        rcases Bool.eq_false_or_eq_true ((evQ (s 12) a).2 || (evQ (s 12) b).2) with hB | hB
        · rw [hB] at hs ⊢
          refine ab_br ok_La_valueOf rfl rfl ?_ ?_
          · intro h2
            show ab_Z m_La_valueOf _ _ _ 24 [_, _, _, _] [] _
            refine ab_go ok_La_valueOf 4 rfl ?_
            show ab_Z m_La_valueOf _ _ _ 28 [_, _, _, _] [_] _
            rw [lpH_b5]
            refine ab_go ok_La_valueOf 1 rfl ?_
            show ab_Z m_La_valueOf _ _ _ 29 [_, _, _, _] [] _
            refine ab_go ok_La_valueOf 1 rfl ?_
            show ab_Z m_La_valueOf _ _ _ 30 [_, _, _, _] [_] _
            exact ab_rI ok_La_valueOf rfl (⟨by rw [← hs]; rfl, g2, true, rfl⟩)
          · intro h2
            show ab_Z m_La_valueOf _ _ _ 22 [_, _, _, _] [] _
            refine ab_go ok_La_valueOf 5 rfl ?_
            show ab_Z m_La_valueOf _ _ _ 28 [_, _, _, _] [_] _
            rw [lpH_b5]
            refine ab_go ok_La_valueOf 1 rfl ?_
            show ab_Z m_La_valueOf _ _ _ 29 [_, _, _, _] [] _
            refine ab_go ok_La_valueOf 1 rfl ?_
            show ab_Z m_La_valueOf _ _ _ 30 [_, _, _, _] [_] _
            exact ab_rI ok_La_valueOf rfl (⟨by rw [← hs]; rfl, g2, true, rfl⟩)
        · rw [hB, if_neg (by decide)] at hs
          rw [hB]
          refine ab_br ok_La_valueOf rfl rfl ?_ ?_
          · intro h2
            show ab_Z m_La_valueOf _ _ _ 24 [_, _, _, _] [] _
            refine ab_go ok_La_valueOf 4 rfl ?_
            show ab_Z m_La_valueOf _ _ _ 28 [_, _, _, _] [_] _
            rw [lpH_b5]
            refine ab_go ok_La_valueOf 1 rfl ?_
            show ab_Z m_La_valueOf _ _ _ 31 [_, _, _, _] [] _
            refine ab_go ok_La_valueOf 1 rfl ?_
            show ab_Z m_La_valueOf _ _ _ 32 [_, _, _, _] [_] _
            refine ab_go ok_La_valueOf 1 rfl ?_
            show ab_Z m_La_valueOf _ _ _ 35 [_, _, _, _] [] _
            refine ab_go ok_La_valueOf 2 rfl ?_
            show ab_Z m_La_valueOf _ _ _ 5 [_, _, _, _] [] _
            rw [L3, nI_add]
            rw [if_neg (fun z => absurd (i_lt z) (by have := i_le h2; omega))] at hs
            exact ih (i + 3) g2 (by omega) (by omega) (by rw [hrest]; exact hs)
          · intro h2
            show ab_Z m_La_valueOf _ _ _ 22 [_, _, _, _] [] _
            refine ab_go ok_La_valueOf 5 rfl ?_
            show ab_Z m_La_valueOf _ _ _ 28 [_, _, _, _] [_] _
            rw [lpH_b5]
            refine ab_go ok_La_valueOf 1 rfl ?_
            show ab_Z m_La_valueOf _ _ _ 31 [_, _, _, _] [] _
            refine ab_go ok_La_valueOf 1 rfl ?_
            show ab_Z m_La_valueOf _ _ _ 32 [_, _, _, _] [_] _
            refine ab_go ok_La_valueOf 1 rfl ?_
            show ab_Z m_La_valueOf _ _ _ 33 [_, _, _, _] [] _
            refine ab_go ok_La_valueOf 2 rfl ?_
            show ab_Z m_La_valueOf _ _ _ 37 [_, _, _, _] [] _
            rw [L2, nI_add]
            rw [if_pos (Int32.lt_iff_toInt_lt.mpr (i_nle h2))] at hs
            exact fin (i + 2) c g2 _ hc hs
  refine ab_T_of (M := m_La_valueOf) rfl rfl (Nat.le_of_ble_eq_true rfl) ?_
  show ab_Z m_La_valueOf _ _ _ 0 [_, _, _, _] [] _
  refine ab_go ok_La_valueOf 2 rfl ?_
  show ab_Z m_La_valueOf _ _ _ 2 [_, _, _, _] [_, _] _
  refine ab_go ok_La_valueOf 1 rfl ?_
  show ab_Z m_La_valueOf _ _ _ 3 [_, _, _, _] [] _
  rw [lpH_0]
  refine ab_go ok_La_valueOf 2 rfl ?_
  show ab_Z m_La_valueOf _ _ _ 5 [_, _, _, _] [] _
  exact loop (P.length + 1) 0 _ (by have := hL.2.1; omega) (by omega) rfl
theorem t_La_valueOf_30 {P : List (List Ins)} (hL : CLaw s 30 P) : ab_T g_La_valueOf (d + 2) (0, 0) [.ref 30, .ref 12] (HA fm X s t) (fun v h => v = some (.int (lawSem (s 12) P)) ∧ ∃ g b, h = HA fm X (lpH s 30 (g, 0, b)) t) := by
  have fin : ∀ i Q f x, P[i]? = some Q → finQ (s 12) Q = lawSem (s 12) P → ab_Z m_La_valueOf (d + 2) (0, 0) (fun v h => v = some (.int (lawSem (s 12) P)) ∧ ∃ g b, h = HA fm X (lpH s 30 (g, 0, b)) t) 37 [some (.ref 30), some (.ref 12), some (.int (nI i)), x] [] (HA fm X (lpH s 30 (f, 0, false)) t) := by
    intro i Q f x hQ hF
    refine ab_go ok_La_valueOf 3 rfl ?_
    show ab_Z m_La_valueOf _ _ _ 40 [_, _, _, _] [_, _, _] _
    refine ab_cl ok_La_valueOf rfl [_, _, _] [] rfl ⟨_, _, rfl, rfl, Or.inl ⟨_, _, rfl, rfl⟩⟩ (Nat.le_of_ble_eq_true rfl) (t_La_partOf'_30 d fm X s t hL hQ f false) ?_
    rintro _ _ ⟨rfl, g, rfl⟩
    show ab_Z m_La_valueOf _ _ _ 41 [_, _, _, _] [_] _
    refine ab_go ok_La_valueOf 3 rfl ?_
    show ab_Z m_La_valueOf _ _ _ 44 [_, _, _, _] [_] _
    rw [show (false || (evQ (s 12) Q).2) = (evQ (s 12) Q).2 from rfl, lpH_b5]
    unfold finQ at hF
    rcases Bool.eq_false_or_eq_true (evQ (s 12) Q).2 with hb | hb
    · rw [hb] at hF ⊢
      refine ab_go ok_La_valueOf 1 rfl ?_
      show ab_Z m_La_valueOf _ _ _ 45 [_, _, _, _] [] _
      refine ab_go ok_La_valueOf 2 rfl ?_
      show ab_Z m_La_valueOf _ _ _ 48 [_, _, _, _] [_] _
      exact ab_rI ok_La_valueOf rfl (⟨by rw [← hF]; rfl, g, true, rfl⟩)
    · rw [hb] at hF ⊢
      refine ab_go ok_La_valueOf 1 rfl ?_
      show ab_Z m_La_valueOf _ _ _ 47 [_, _, _, _] [] _
      refine ab_go ok_La_valueOf 1 rfl ?_
      show ab_Z m_La_valueOf _ _ _ 48 [_, _, _, _] [_] _
      exact ab_rI ok_La_valueOf rfl (⟨by rw [← hF]; rfl, g, false, rfl⟩)
  have loop : ∀ n i f, i < P.length → P.length - i < n → lawSem (s 12) (P.drop i) = lawSem (s 12) P → ab_Z m_La_valueOf (d + 2) (0, 0) (fun v h => v = some (.int (lawSem (s 12) P)) ∧ ∃ g b, h = HA fm X (lpH s 30 (g, 0, b)) t) 5 [some (.ref 30), some (.ref 12), some (.int (nI i)), none] [] (HA fm X (lpH s 30 (f, 0, false)) t) := by
    intro n
    induction n with
    | zero => intro i f hi hlt _; omega
    | succ n ih =>
      intro i f hi hlt hs
      refine ab_go ok_La_valueOf 5 rfl ?_
      show ab_Z m_La_valueOf _ _ _ 10 [_, _, _, _] [_, _] _
      rw [L3, nI_add, lpH_f s 30 _ (by decide), hL.1]
      refine ab_br ok_La_valueOf rfl rfl ?_ ?_
      · intro h1
        show ab_Z m_La_valueOf _ _ _ 37 [_, _, _, _] [] _
        have hl : P.length ≤ i + 3 := Nat.le_of_not_lt fun z => nI_ge z (by have := hL.2.2.1; omega) h1
        obtain ⟨Q, hQ⟩ : ∃ Q, P[i]? = some Q := ⟨P[i], List.getElem?_eq_getElem hi⟩
        refine fin i Q f _ hQ ?_
        rw [← hs]
        have hd : P.drop i = Q :: P.drop (i + 1) := by
          rw [List.drop_eq_getElem_cons hi]
          rw [List.getElem?_eq_getElem hi] at hQ
          rw [Option.some.inj hQ]
        have hln : (P.drop (i + 1)).length ≤ 2 := by rw [List.length_drop]; omega
        rw [hd]
        match hr : P.drop (i + 1), hln with
        | [], _ => rfl
        | [_], _ => rfl
        | [_, _], _ => rfl
      · intro h1
        show ab_Z m_La_valueOf _ _ _ 11 [_, _, _, _] [] _
        have hl : i + 3 < P.length := Nat.lt_of_not_le fun z => h1 (nI_le z (by have := hL.2.2.1; omega))
        obtain ⟨a, ha⟩ : ∃ Q, P[i]? = some Q := ⟨P[i], List.getElem?_eq_getElem hi⟩
        obtain ⟨b, hb⟩ : ∃ Q, P[i + 1]? = some Q := ⟨P[i + 1], List.getElem?_eq_getElem (by omega)⟩
        obtain ⟨c, hc⟩ : ∃ Q, P[i + 2]? = some Q := ⟨P[i + 2], List.getElem?_eq_getElem (by omega)⟩
        obtain ⟨e, he⟩ : ∃ Q, P[i + 3]? = some Q := ⟨P[i + 3], List.getElem?_eq_getElem (by omega)⟩
        have dr : ∀ j Q, P[j]? = some Q → P.drop j = Q :: P.drop (j + 1) := by
          intro j Q hj
          have hjl := (List.getElem?_eq_some_iff.mp hj).1
          rw [List.drop_eq_getElem_cons hjl]
          rw [List.getElem?_eq_getElem hjl] at hj
          rw [Option.some.inj hj]
        rw [dr _ _ ha, dr _ _ hb, dr _ _ hc, dr _ _ he] at hs
        have hrest : P.drop (i + 3) = e :: P.drop (i + 3 + 1) := dr _ _ he
        rw [lawSem] at hs
        refine ab_go ok_La_valueOf 3 rfl ?_
        show ab_Z m_La_valueOf _ _ _ 14 [_, _, _, _] [_, _, _] _
        refine ab_cl ok_La_valueOf rfl [_, _, _] [] rfl ⟨_, _, rfl, rfl, Or.inl ⟨_, _, rfl, rfl⟩⟩ (Nat.le_of_ble_eq_true rfl) (t_La_partOf'_30 d fm X s t hL ha f false) ?_
        rintro _ _ ⟨rfl, g1, rfl⟩
        show ab_Z m_La_valueOf _ _ _ 15 [_, _, _, _] [_] _
        refine ab_go ok_La_valueOf 5 rfl ?_
        show ab_Z m_La_valueOf _ _ _ 20 [_, _, _, _] [_, _, _, _] _
        rw [← nI_succ]
        refine ab_cl ok_La_valueOf rfl [_, _, _] [_] rfl ⟨_, _, rfl, rfl, Or.inl ⟨_, _, rfl, rfl⟩⟩ (Nat.le_of_ble_eq_true rfl) (t_La_partOf'_30 d fm X s t hL hb g1 _) ?_
        rintro _ _ ⟨rfl, g2, rfl⟩
        show ab_Z m_La_valueOf _ _ _ 21 [_, _, _, _] [_, _] _
        rw [show (false || (evQ (s 12) a).2 || (evQ (s 12) b).2) = ((evQ (s 12) a).2 || (evQ (s 12) b).2) from rfl]
        rcases Bool.eq_false_or_eq_true ((evQ (s 12) a).2 || (evQ (s 12) b).2) with hB | hB
        · rw [hB] at hs ⊢
          refine ab_br ok_La_valueOf rfl rfl ?_ ?_
          · intro h2
            show ab_Z m_La_valueOf _ _ _ 24 [_, _, _, _] [] _
            refine ab_go ok_La_valueOf 4 rfl ?_
            show ab_Z m_La_valueOf _ _ _ 28 [_, _, _, _] [_] _
            rw [lpH_b5]
            refine ab_go ok_La_valueOf 1 rfl ?_
            show ab_Z m_La_valueOf _ _ _ 29 [_, _, _, _] [] _
            refine ab_go ok_La_valueOf 1 rfl ?_
            show ab_Z m_La_valueOf _ _ _ 30 [_, _, _, _] [_] _
            exact ab_rI ok_La_valueOf rfl (⟨by rw [← hs]; rfl, g2, true, rfl⟩)
          · intro h2
            show ab_Z m_La_valueOf _ _ _ 22 [_, _, _, _] [] _
            refine ab_go ok_La_valueOf 5 rfl ?_
            show ab_Z m_La_valueOf _ _ _ 28 [_, _, _, _] [_] _
            rw [lpH_b5]
            refine ab_go ok_La_valueOf 1 rfl ?_
            show ab_Z m_La_valueOf _ _ _ 29 [_, _, _, _] [] _
            refine ab_go ok_La_valueOf 1 rfl ?_
            show ab_Z m_La_valueOf _ _ _ 30 [_, _, _, _] [_] _
            exact ab_rI ok_La_valueOf rfl (⟨by rw [← hs]; rfl, g2, true, rfl⟩)
        · rw [hB, if_neg (by decide)] at hs
          rw [hB]
          refine ab_br ok_La_valueOf rfl rfl ?_ ?_
          · intro h2
            show ab_Z m_La_valueOf _ _ _ 24 [_, _, _, _] [] _
            refine ab_go ok_La_valueOf 4 rfl ?_
            show ab_Z m_La_valueOf _ _ _ 28 [_, _, _, _] [_] _
            rw [lpH_b5]
            refine ab_go ok_La_valueOf 1 rfl ?_
            show ab_Z m_La_valueOf _ _ _ 31 [_, _, _, _] [] _
            refine ab_go ok_La_valueOf 1 rfl ?_
            show ab_Z m_La_valueOf _ _ _ 32 [_, _, _, _] [_] _
            refine ab_go ok_La_valueOf 1 rfl ?_
            show ab_Z m_La_valueOf _ _ _ 35 [_, _, _, _] [] _
            refine ab_go ok_La_valueOf 2 rfl ?_
            show ab_Z m_La_valueOf _ _ _ 5 [_, _, _, _] [] _
            rw [L3, nI_add]
            rw [if_neg (fun z => absurd (i_lt z) (by have := i_le h2; omega))] at hs
            exact ih (i + 3) g2 (by omega) (by omega) (by rw [hrest]; exact hs)
          · intro h2
            show ab_Z m_La_valueOf _ _ _ 22 [_, _, _, _] [] _
            refine ab_go ok_La_valueOf 5 rfl ?_
            show ab_Z m_La_valueOf _ _ _ 28 [_, _, _, _] [_] _
            rw [lpH_b5]
            refine ab_go ok_La_valueOf 1 rfl ?_
            show ab_Z m_La_valueOf _ _ _ 31 [_, _, _, _] [] _
            refine ab_go ok_La_valueOf 1 rfl ?_
            show ab_Z m_La_valueOf _ _ _ 32 [_, _, _, _] [_] _
            refine ab_go ok_La_valueOf 1 rfl ?_
            show ab_Z m_La_valueOf _ _ _ 33 [_, _, _, _] [] _
            refine ab_go ok_La_valueOf 2 rfl ?_
            show ab_Z m_La_valueOf _ _ _ 37 [_, _, _, _] [] _
            rw [L2, nI_add]
            rw [if_pos (Int32.lt_iff_toInt_lt.mpr (i_nle h2))] at hs
            exact fin (i + 2) c g2 _ hc hs
  refine ab_T_of (M := m_La_valueOf) rfl rfl (Nat.le_of_ble_eq_true rfl) ?_
  show ab_Z m_La_valueOf _ _ _ 0 [_, _, _, _] [] _
  refine ab_go ok_La_valueOf 2 rfl ?_
  show ab_Z m_La_valueOf _ _ _ 2 [_, _, _, _] [_, _] _
  refine ab_go ok_La_valueOf 1 rfl ?_
  show ab_Z m_La_valueOf _ _ _ 3 [_, _, _, _] [] _
  rw [lpH_0]
  refine ab_go ok_La_valueOf 2 rfl ?_
  show ab_Z m_La_valueOf _ _ _ 5 [_, _, _, _] [] _
  exact loop (P.length + 1) 0 _ (by have := hL.2.1; omega) (by omega) rfl
theorem t_La_valueOf_34 {P : List (List Ins)} (hL : CLaw s 34 P) : ab_T g_La_valueOf (d + 2) (0, 0) [.ref 34, .ref 12] (HA fm X s t) (fun v h => v = some (.int (lawSem (s 12) P)) ∧ ∃ g b, h = HA fm X (lpH s 34 (g, 0, b)) t) := by
  have fin : ∀ i Q f x, P[i]? = some Q → finQ (s 12) Q = lawSem (s 12) P → ab_Z m_La_valueOf (d + 2) (0, 0) (fun v h => v = some (.int (lawSem (s 12) P)) ∧ ∃ g b, h = HA fm X (lpH s 34 (g, 0, b)) t) 37 [some (.ref 34), some (.ref 12), some (.int (nI i)), x] [] (HA fm X (lpH s 34 (f, 0, false)) t) := by
    intro i Q f x hQ hF
    refine ab_go ok_La_valueOf 3 rfl ?_
    show ab_Z m_La_valueOf _ _ _ 40 [_, _, _, _] [_, _, _] _
    refine ab_cl ok_La_valueOf rfl [_, _, _] [] rfl ⟨_, _, rfl, rfl, Or.inl ⟨_, _, rfl, rfl⟩⟩ (Nat.le_of_ble_eq_true rfl) (t_La_partOf'_34 d fm X s t hL hQ f false) ?_
    rintro _ _ ⟨rfl, g, rfl⟩
    show ab_Z m_La_valueOf _ _ _ 41 [_, _, _, _] [_] _
    refine ab_go ok_La_valueOf 3 rfl ?_
    show ab_Z m_La_valueOf _ _ _ 44 [_, _, _, _] [_] _
    rw [show (false || (evQ (s 12) Q).2) = (evQ (s 12) Q).2 from rfl, lpH_b5]
    unfold finQ at hF
    rcases Bool.eq_false_or_eq_true (evQ (s 12) Q).2 with hb | hb
    · rw [hb] at hF ⊢
      refine ab_go ok_La_valueOf 1 rfl ?_
      show ab_Z m_La_valueOf _ _ _ 45 [_, _, _, _] [] _
      refine ab_go ok_La_valueOf 2 rfl ?_
      show ab_Z m_La_valueOf _ _ _ 48 [_, _, _, _] [_] _
      exact ab_rI ok_La_valueOf rfl (⟨by rw [← hF]; rfl, g, true, rfl⟩)
    · rw [hb] at hF ⊢
      refine ab_go ok_La_valueOf 1 rfl ?_
      show ab_Z m_La_valueOf _ _ _ 47 [_, _, _, _] [] _
      refine ab_go ok_La_valueOf 1 rfl ?_
      show ab_Z m_La_valueOf _ _ _ 48 [_, _, _, _] [_] _
      exact ab_rI ok_La_valueOf rfl (⟨by rw [← hF]; rfl, g, false, rfl⟩)
  have loop : ∀ n i f, i < P.length → P.length - i < n → lawSem (s 12) (P.drop i) = lawSem (s 12) P → ab_Z m_La_valueOf (d + 2) (0, 0) (fun v h => v = some (.int (lawSem (s 12) P)) ∧ ∃ g b, h = HA fm X (lpH s 34 (g, 0, b)) t) 5 [some (.ref 34), some (.ref 12), some (.int (nI i)), none] [] (HA fm X (lpH s 34 (f, 0, false)) t) := by
    intro n
    induction n with
    | zero => intro i f hi hlt _; omega
    | succ n ih =>
      intro i f hi hlt hs
      refine ab_go ok_La_valueOf 5 rfl ?_
      show ab_Z m_La_valueOf _ _ _ 10 [_, _, _, _] [_, _] _
      rw [L3, nI_add, lpH_f s 34 _ (by decide), hL.1]
      refine ab_br ok_La_valueOf rfl rfl ?_ ?_
      · intro h1
        show ab_Z m_La_valueOf _ _ _ 37 [_, _, _, _] [] _
        have hl : P.length ≤ i + 3 := Nat.le_of_not_lt fun z => nI_ge z (by have := hL.2.2.1; omega) h1
        obtain ⟨Q, hQ⟩ : ∃ Q, P[i]? = some Q := ⟨P[i], List.getElem?_eq_getElem hi⟩
        refine fin i Q f _ hQ ?_
        rw [← hs]
        have hd : P.drop i = Q :: P.drop (i + 1) := by
          rw [List.drop_eq_getElem_cons hi]
          rw [List.getElem?_eq_getElem hi] at hQ
          rw [Option.some.inj hQ]
        have hln : (P.drop (i + 1)).length ≤ 2 := by rw [List.length_drop]; omega
        rw [hd]
        match hr : P.drop (i + 1), hln with
        | [], _ => rfl
        | [_], _ => rfl
        | [_, _], _ => rfl
      · intro h1
        show ab_Z m_La_valueOf _ _ _ 11 [_, _, _, _] [] _
        have hl : i + 3 < P.length := Nat.lt_of_not_le fun z => h1 (nI_le z (by have := hL.2.2.1; omega))
        obtain ⟨a, ha⟩ : ∃ Q, P[i]? = some Q := ⟨P[i], List.getElem?_eq_getElem hi⟩
        obtain ⟨b, hb⟩ : ∃ Q, P[i + 1]? = some Q := ⟨P[i + 1], List.getElem?_eq_getElem (by omega)⟩
        obtain ⟨c, hc⟩ : ∃ Q, P[i + 2]? = some Q := ⟨P[i + 2], List.getElem?_eq_getElem (by omega)⟩
        obtain ⟨e, he⟩ : ∃ Q, P[i + 3]? = some Q := ⟨P[i + 3], List.getElem?_eq_getElem (by omega)⟩
        have dr : ∀ j Q, P[j]? = some Q → P.drop j = Q :: P.drop (j + 1) := by
          intro j Q hj
          have hjl := (List.getElem?_eq_some_iff.mp hj).1
          rw [List.drop_eq_getElem_cons hjl]
          rw [List.getElem?_eq_getElem hjl] at hj
          rw [Option.some.inj hj]
        rw [dr _ _ ha, dr _ _ hb, dr _ _ hc, dr _ _ he] at hs
        have hrest : P.drop (i + 3) = e :: P.drop (i + 3 + 1) := dr _ _ he
        rw [lawSem] at hs
        refine ab_go ok_La_valueOf 3 rfl ?_
        show ab_Z m_La_valueOf _ _ _ 14 [_, _, _, _] [_, _, _] _
        refine ab_cl ok_La_valueOf rfl [_, _, _] [] rfl ⟨_, _, rfl, rfl, Or.inl ⟨_, _, rfl, rfl⟩⟩ (Nat.le_of_ble_eq_true rfl) (t_La_partOf'_34 d fm X s t hL ha f false) ?_
        rintro _ _ ⟨rfl, g1, rfl⟩
        show ab_Z m_La_valueOf _ _ _ 15 [_, _, _, _] [_] _
        refine ab_go ok_La_valueOf 5 rfl ?_
        show ab_Z m_La_valueOf _ _ _ 20 [_, _, _, _] [_, _, _, _] _
        rw [← nI_succ]
        refine ab_cl ok_La_valueOf rfl [_, _, _] [_] rfl ⟨_, _, rfl, rfl, Or.inl ⟨_, _, rfl, rfl⟩⟩ (Nat.le_of_ble_eq_true rfl) (t_La_partOf'_34 d fm X s t hL hb g1 _) ?_
        rintro _ _ ⟨rfl, g2, rfl⟩
        show ab_Z m_La_valueOf _ _ _ 21 [_, _, _, _] [_, _] _
        rw [show (false || (evQ (s 12) a).2 || (evQ (s 12) b).2) = ((evQ (s 12) a).2 || (evQ (s 12) b).2) from rfl]
        rcases Bool.eq_false_or_eq_true ((evQ (s 12) a).2 || (evQ (s 12) b).2) with hB | hB
        · rw [hB] at hs ⊢
          refine ab_br ok_La_valueOf rfl rfl ?_ ?_
          · intro h2
            show ab_Z m_La_valueOf _ _ _ 24 [_, _, _, _] [] _
            refine ab_go ok_La_valueOf 4 rfl ?_
            show ab_Z m_La_valueOf _ _ _ 28 [_, _, _, _] [_] _
            rw [lpH_b5]
            refine ab_go ok_La_valueOf 1 rfl ?_
            show ab_Z m_La_valueOf _ _ _ 29 [_, _, _, _] [] _
            refine ab_go ok_La_valueOf 1 rfl ?_
            show ab_Z m_La_valueOf _ _ _ 30 [_, _, _, _] [_] _
            exact ab_rI ok_La_valueOf rfl (⟨by rw [← hs]; rfl, g2, true, rfl⟩)
          · intro h2
            show ab_Z m_La_valueOf _ _ _ 22 [_, _, _, _] [] _
            refine ab_go ok_La_valueOf 5 rfl ?_
            show ab_Z m_La_valueOf _ _ _ 28 [_, _, _, _] [_] _
            rw [lpH_b5]
            refine ab_go ok_La_valueOf 1 rfl ?_
            show ab_Z m_La_valueOf _ _ _ 29 [_, _, _, _] [] _
            refine ab_go ok_La_valueOf 1 rfl ?_
            show ab_Z m_La_valueOf _ _ _ 30 [_, _, _, _] [_] _
            exact ab_rI ok_La_valueOf rfl (⟨by rw [← hs]; rfl, g2, true, rfl⟩)
        · rw [hB, if_neg (by decide)] at hs
          rw [hB]
          refine ab_br ok_La_valueOf rfl rfl ?_ ?_
          · intro h2
            show ab_Z m_La_valueOf _ _ _ 24 [_, _, _, _] [] _
            refine ab_go ok_La_valueOf 4 rfl ?_
            show ab_Z m_La_valueOf _ _ _ 28 [_, _, _, _] [_] _
            rw [lpH_b5]
            refine ab_go ok_La_valueOf 1 rfl ?_
            show ab_Z m_La_valueOf _ _ _ 31 [_, _, _, _] [] _
            refine ab_go ok_La_valueOf 1 rfl ?_
            show ab_Z m_La_valueOf _ _ _ 32 [_, _, _, _] [_] _
            refine ab_go ok_La_valueOf 1 rfl ?_
            show ab_Z m_La_valueOf _ _ _ 35 [_, _, _, _] [] _
            refine ab_go ok_La_valueOf 2 rfl ?_
            show ab_Z m_La_valueOf _ _ _ 5 [_, _, _, _] [] _
            rw [L3, nI_add]
            rw [if_neg (fun z => absurd (i_lt z) (by have := i_le h2; omega))] at hs
            exact ih (i + 3) g2 (by omega) (by omega) (by rw [hrest]; exact hs)
          · intro h2
            show ab_Z m_La_valueOf _ _ _ 22 [_, _, _, _] [] _
            refine ab_go ok_La_valueOf 5 rfl ?_
            show ab_Z m_La_valueOf _ _ _ 28 [_, _, _, _] [_] _
            rw [lpH_b5]
            refine ab_go ok_La_valueOf 1 rfl ?_
            show ab_Z m_La_valueOf _ _ _ 31 [_, _, _, _] [] _
            refine ab_go ok_La_valueOf 1 rfl ?_
            show ab_Z m_La_valueOf _ _ _ 32 [_, _, _, _] [_] _
            refine ab_go ok_La_valueOf 1 rfl ?_
            show ab_Z m_La_valueOf _ _ _ 33 [_, _, _, _] [] _
            refine ab_go ok_La_valueOf 2 rfl ?_
            show ab_Z m_La_valueOf _ _ _ 37 [_, _, _, _] [] _
            rw [L2, nI_add]
            rw [if_pos (Int32.lt_iff_toInt_lt.mpr (i_nle h2))] at hs
            exact fin (i + 2) c g2 _ hc hs
  refine ab_T_of (M := m_La_valueOf) rfl rfl (Nat.le_of_ble_eq_true rfl) ?_
  show ab_Z m_La_valueOf _ _ _ 0 [_, _, _, _] [] _
  refine ab_go ok_La_valueOf 2 rfl ?_
  show ab_Z m_La_valueOf _ _ _ 2 [_, _, _, _] [_, _] _
  refine ab_go ok_La_valueOf 1 rfl ?_
  show ab_Z m_La_valueOf _ _ _ 3 [_, _, _, _] [] _
  rw [lpH_0]
  refine ab_go ok_La_valueOf 2 rfl ?_
  show ab_Z m_La_valueOf _ _ _ 5 [_, _, _, _] [] _
  exact loop (P.length + 1) 0 _ (by have := hL.2.1; omega) (by omega) rfl
end

