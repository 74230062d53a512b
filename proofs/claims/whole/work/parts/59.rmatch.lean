/-! the reference: open deeds, who is given what -/
theorem cnt_mono (p : Nat → Bool) {a : Nat} : ∀ {b : Nat}, a ≤ b → cntN p a ≤ cntN p b
  | 0, h => by rw [Nat.le_zero.mp h]; exact Nat.le_refl _
  | b + 1, h => by
    rcases Nat.lt_or_ge b a with h1 | h1
    · rw [show a = b + 1 by omega]; exact Nat.le_refl _
    · have := cnt_mono p h1
      rw [cntN]
      omega
theorem cnt_lt {p : Nat → Bool} {a b : Nat} (ha : p a = true) (h : a < b) : cntN p a < cntN p b := by
  have h1 := cnt_mono p (show a + 1 ≤ b by omega)
  rw [cntN, ha, if_pos rfl] at h1
  omega
theorem cnt_at (p : Nat → Bool) : ∀ {n k : Nat}, k < cntN p n → ∃ e, e < n ∧ p e = true ∧ cntN p e = k
  | 0, k, h => absurd h (by rw [cntN]; omega)
  | n + 1, k, h => by
    rw [cntN] at h
    by_cases hk : k < cntN p n
    · obtain ⟨e, h1, h2, h3⟩ := cnt_at p hk
      exact ⟨e, by omega, h2, h3⟩
    · by_cases hp : p n = true
      · rw [if_pos hp] at h
        exact ⟨n, by omega, hp, by omega⟩
      · rw [if_neg hp] at h
        omega
theorem cnt_eq_no {p : Nat → Bool} {a b : Nat} (h : cntN p a = cntN p b) : ∀ e, a ≤ e → e < b → p e = false := by
  intro e h1 h2
  cases hp : p e
  · rfl
  · have := cnt_lt hp h2
    have := cnt_mono p h1
    omega
def w6 (c k : Nat) : Bool := c == 120 || c == 121 || (c == 81 && k == 59)
theorem Kr.m64 {a b : Nat → Nat → Int32} (h : Kr w6 a b) : Kr w4 a b := fun x k p => h x k (by unfold w4 at p; unfold w6; simp only [Bool.or_eq_false_iff] at p ⊢; exact ⟨⟨p.1.1.1.1.2, p.1.1.1.2⟩, p.2⟩)
/-- the open deeds stand in their row -/
def OpI (s : Nat → Nat → Int32) (p : Nat → Bool) (nd : Nat) : Prop := s 81 59 = nI (cntN p nd) ∧ ∀ e, e < nd → p e = true → s 120 (cntN p e) = nI e
theorem OpI.of {s s' : Nat → Nat → Int32} {p : Nat → Bool} {nd : Nat} (h1 : s' 81 59 = s 81 59) (h2 : s' 120 = s 120) (h : OpI s p nd) : OpI s' p nd := ⟨h1.trans h.1, fun e he hp => by rw [h2]; exact h.2 e he hp⟩
section
variable (d : Nat) (fm : Value) (X : Nat × (Nat → Int32)) (s T : Nat → Nat → Int32) (t : Nat → Nat → Int64)
variable {lv nc nd nt : Nat} {PT PG PB PF : List (List Ins)}
theorem t_Mo_fillsOpen (hR : RT s lv T nc nd nt) : ab_T g_Mo_fillsOpen (d + 3) (0, 0) [.ref 81] (HA fm X s t) (fun v h => v = none ∧ ∃ s', h = HA fm X s' t ∧ Kr w6 s s' ∧ OpI s' (openB (vR T nc nd (s 114))) nd ∧ ∀ e, e < nd → s' 121 e = -2) := by
  have h2 := hR.2.1
  have h6 := hR.2.2.2.1.2
  generalize hPo : (fun v h => v = none ∧ ∃ s', h = HA fm X s' t ∧ Kr w6 s s' ∧ OpI s' (openB (vR T nc nd (s 114))) nd ∧ ∀ e, e < nd → s' 121 e = -2 : Option Value → ab_H → Prop) = Po
  obtain ⟨p, hp⟩ : ∃ p, p = openB (vR T nc nd (s 114)) := ⟨_, rfl⟩
  rw [← hp] at hPo
  refine ab_T_of (M := m_Mo_fillsOpen) rfl rfl (Nat.le_of_ble_eq_true rfl) ?_
  show ab_Z m_Mo_fillsOpen _ _ _ 0 [_, _] [] _
  refine ab_go ok_Mo_fillsOpen 5 rfl ?_
  show ab_Z m_Mo_fillsOpen _ _ _ 5 [_, _] [] _
  refine lp_dn nd (fun k => ∀ s1, Kr w6 s s1 → s1 81 59 = nI (cntN p k) → (∀ e, e < k → p e = true → s1 120 (cntN p e) = nI e) → (∀ e, e < k → s1 121 e = -2) → ab_Z m_Mo_fillsOpen (d + 3) (0, 0) Po 5 [some (.ref 81), some (.int (nI k))] [] (HA fm X s1 t)) ?_ ?_ (ab_up s 81 59 0) (Kr.up rfl (Kr.rf w6 s)) (ab_up_s ..) (fun e he => absurd he (by omega)) (fun e he => absurd he (by omega))
  · intro s1 k1 q1 q2 q3
    have hR1 := hR.k k1.m64
    refine ab_go ok_Mo_fillsOpen 5 rfl ?_
    show ab_Z m_Mo_fillsOpen _ _ _ 10 [_, _] [_, _, _] _
    rw [hR1.1]
    refine ab_ia ok_Mo_fillsOpen rfl rfl (k := lv) (by first | rfl | (simp only [LL1, LL2, LL3, LL4, LL5, LL6, LL7, LL8, LL10, LL15, LL18, LL20, LL21, LL22, LL23, LL24, LL32, LL39, LL40, LL130, LL420, pk_mul, nI_add]; done) | (simp only [LL1, LL2, LL3, LL4, LL5, LL6, LL7, LL8, LL10, LL15, LL18, LL20, LL21, LL22, LL23, LL24, LL32, LL39, LL40, LL130, LL420, pk_mul, nI_add]; congr 1; omega)) (by omega) (Nat.le_of_ble_eq_true rfl) ?_
    show ab_Z m_Mo_fillsOpen _ _ _ 11 [_, _] [_, _] _
    rw [hR1.2.2.2.1.1]
    refine ab_br ok_Mo_fillsOpen rfl rfl ?_ ?_
    · intro h1
      show ab_Z m_Mo_fillsOpen _ _ _ 36 [_, _] [] _
      have fin : Po none (HA fm X s1 t) := by
        rw [← hPo]
        exact ⟨rfl, s1, rfl, k1, ⟨q1, q2⟩, q3⟩
      exact ab_rV ok_Mo_fillsOpen rfl (fin)
    · intro h1
      show ab_Z m_Mo_fillsOpen _ _ _ 12 [_, _] [] _
      exact absurd (lp_out nd) h1
  · intro k hk ih s1 k1 q1 q2 q3
    have hR1 := hR.k k1.m64
    have hle := cnt_le p k
    refine ab_go ok_Mo_fillsOpen 5 rfl ?_
    show ab_Z m_Mo_fillsOpen _ _ _ 10 [_, _] [_, _, _] _
    rw [hR1.1]
    refine ab_ia ok_Mo_fillsOpen rfl rfl (k := lv) (by first | rfl | (simp only [LL1, LL2, LL3, LL4, LL5, LL6, LL7, LL8, LL10, LL15, LL18, LL20, LL21, LL22, LL23, LL24, LL32, LL39, LL40, LL130, LL420, pk_mul, nI_add]; done) | (simp only [LL1, LL2, LL3, LL4, LL5, LL6, LL7, LL8, LL10, LL15, LL18, LL20, LL21, LL22, LL23, LL24, LL32, LL39, LL40, LL130, LL420, pk_mul, nI_add]; congr 1; omega)) (by omega) (Nat.le_of_ble_eq_true rfl) ?_
    show ab_Z m_Mo_fillsOpen _ _ _ 11 [_, _] [_, _] _
    rw [hR1.2.2.2.1.1]
    refine ab_br ok_Mo_fillsOpen rfl rfl ?_ ?_
    · intro h1
      show ab_Z m_Mo_fillsOpen _ _ _ 36 [_, _] [] _
      exact absurd h1 (lp_in (by omega) hk)
    · intro h1
      show ab_Z m_Mo_fillsOpen _ _ _ 12 [_, _] [] _
      refine ab_go ok_Mo_fillsOpen 4 rfl ?_
      show ab_Z m_Mo_fillsOpen _ _ _ 16 [_, _] [_, _, _] _
      refine ab_is ok_Mo_fillsOpen rfl rfl (k := k) (by first | rfl | (simp only [LL1, LL2, LL3, LL4, LL5, LL6, LL7, LL8, LL10, LL15, LL18, LL20, LL21, LL22, LL23, LL24, LL32, LL39, LL40, LL130, LL420, pk_mul, nI_add]; done) | (simp only [LL1, LL2, LL3, LL4, LL5, LL6, LL7, LL8, LL10, LL15, LL18, LL20, LL21, LL22, LL23, LL24, LL32, LL39, LL40, LL130, LL420, pk_mul, nI_add]; congr 1; omega)) (by omega) (Nat.le_of_ble_eq_true rfl) ?_
      show ab_Z m_Mo_fillsOpen _ _ _ 17 [_, _] [] _
      have k2 : Kr w6 s (ab_up s1 121 k (-2)) := Kr.up rfl k1
      have q3' : ∀ e, e < k + 1 → ab_up s1 121 k (-2) 121 e = -2 := by
        intro e he
        by_cases hek : e = k
        · subst hek; exact ab_up_s ..
        · rw [ab_up_n hek]; exact q3 e (by omega)
      refine ab_go ok_Mo_fillsOpen 2 rfl ?_
      show ab_Z m_Mo_fillsOpen _ _ _ 19 [_, _] [_, _] _
      refine ab_cl ok_Mo_fillsOpen rfl [_, _] [] rfl ⟨_, _, rfl, rfl, Or.inl ⟨_, _, rfl, rfl⟩⟩ (Nat.le_of_ble_eq_true rfl) (t_Mo_isOpen' d fm X _ T t (hR.k k2.m64) hk) ?_
      rintro _ _ ⟨rfl, rfl⟩
      show ab_Z m_Mo_fillsOpen _ _ _ 20 [_, _] [_] _
      rw [show ab_up s1 121 k (-2) 114 = s 114 from by rw [ab_up_o (by decide)]; exact k1.row (fun _ => rfl), ← hp]
      refine ab_br ok_Mo_fillsOpen rfl rfl ?_ ?_
      · intro h3
        show ab_Z m_Mo_fillsOpen _ _ _ 21 [_, _] [] _
        have hf := bB_0.mp h3
        refine ab_go ok_Mo_fillsOpen 3 rfl ?_
        show ab_Z m_Mo_fillsOpen _ _ _ 5 [_, _] [] _
        rw [← nI_succ]
        refine ih _ k2 (by rw [ab_up_o (by decide), q1, cntN, hf]; rfl) (fun e he hpe => ?_) q3'
        have hek : e ≠ k := fun z => by rw [z, hf] at hpe; cases hpe
        rw [ab_up_o (by decide)]
        exact q2 e (by omega) hpe
      · intro h3
        show ab_Z m_Mo_fillsOpen _ _ _ 22 [_, _] [] _
        have hf := bB_n0 h3
        refine ab_go ok_Mo_fillsOpen 5 rfl ?_
        show ab_Z m_Mo_fillsOpen _ _ _ 27 [_, _] [_, _, _] _
        rw [show ab_up s1 121 k (-2) 81 59 = nI (cntN p k) from by rw [ab_up_o (by decide)]; exact q1]
        refine ab_is ok_Mo_fillsOpen rfl rfl (k := (cntN p k)) (by first | rfl | (simp only [LL1, LL2, LL3, LL4, LL5, LL6, LL7, LL8, LL10, LL15, LL18, LL20, LL21, LL22, LL23, LL24, LL32, LL39, LL40, LL130, LL420, pk_mul, nI_add]; done) | (simp only [LL1, LL2, LL3, LL4, LL5, LL6, LL7, LL8, LL10, LL15, LL18, LL20, LL21, LL22, LL23, LL24, LL32, LL39, LL40, LL130, LL420, pk_mul, nI_add]; congr 1; omega)) (by omega) (Nat.le_of_ble_eq_true rfl) ?_
        show ab_Z m_Mo_fillsOpen _ _ _ 28 [_, _] [] _
        refine ab_go ok_Mo_fillsOpen 8 rfl ?_
        show ab_Z m_Mo_fillsOpen _ _ _ 5 [_, _] [] _
        rw [show ab_up (ab_up s1 121 k (-2)) 120 (cntN p k) (nI k) 81 59 = nI (cntN p k) from by rw [ab_up_o (by decide), ab_up_o (by decide)]; exact q1, ← nI_succ, ← nI_succ]
        refine ih _ (Kr.up rfl (Kr.up rfl k2)) (by rw [ab_up_s, cntN, hf]; rfl) (fun e he hpe => ?_) (fun e he => ?_)
        · rw [ab_up_o (by decide)]
          by_cases hek : e = k
          · subst hek; exact ab_up_s ..
          · have := cnt_lt hpe (show e < k by omega)
            rw [ab_up_n (by omega), ab_up_o (by decide)]
            exact q2 e (by omega) hpe
        · rw [ab_up_o (by decide), ab_up_o (by decide)]
          exact q3' e he
theorem t_Mo_mayHave (hC : RC s lv T nc nd nt PT PG PB PF) {c k e u : Nat} (hc : c < nc) (hk : k < 6) (hke : s 120 k = nI e) (he : e < nd) (hu : u < 32) : ab_T g_Mo_mayHave (d + 4) (0, 0) [.ref 81, .int (nI c), .int (nI k), .int (nI u)] (HA fm X s t) (PR w2 (bB (!u.testBit c && canB (vR T nc nd (s 115)) PT nd c e)) fm X s t) := by
  have h5 := hC.1.2.2.1.2
  refine ab_T_of (M := m_Mo_mayHave) rfl rfl (Nat.le_of_ble_eq_true rfl) ?_
  show ab_Z m_Mo_mayHave _ _ _ 0 [_, _, _, _] [] _
  refine ab_go ok_Mo_mayHave 5 rfl ?_
  show ab_Z m_Mo_mayHave _ _ _ 5 [_, _, _, _] [_] _
  rw [sh_bit u (by omega) c (by omega)]
  cases hb : u.testBit c
  · rw [if_neg (by decide)]
    refine ab_go ok_Mo_mayHave 1 rfl ?_
    show ab_Z m_Mo_mayHave _ _ _ 6 [_, _, _, _] [] _
    refine ab_go ok_Mo_mayHave 5 rfl ?_
    show ab_Z m_Mo_mayHave _ _ _ 11 [_, _, _, _] [_, _, _, _] _
    refine ab_ia ok_Mo_mayHave rfl rfl (k := k) (by first | rfl | (simp only [LL1, LL2, LL3, LL4, LL5, LL6, LL7, LL8, LL10, LL15, LL18, LL20, LL21, LL22, LL23, LL24, LL32, LL39, LL40, LL130, LL420, pk_mul, nI_add]; done) | (simp only [LL1, LL2, LL3, LL4, LL5, LL6, LL7, LL8, LL10, LL15, LL18, LL20, LL21, LL22, LL23, LL24, LL32, LL39, LL40, LL130, LL420, pk_mul, nI_add]; congr 1; omega)) (by omega) (Nat.le_of_ble_eq_true rfl) ?_
    show ab_Z m_Mo_mayHave _ _ _ 12 [_, _, _, _] [_, _, _] _
    rw [hke]
    refine ab_cl ok_Mo_mayHave rfl [_, _, _] [] rfl ⟨_, _, rfl, rfl, Or.inl ⟨_, _, rfl, rfl⟩⟩ (Nat.le_of_ble_eq_true rfl) (t_Mo_canSeal d fm X s T t hC hc he) ?_
    rintro _ _ ⟨rfl, s1, rfl, k1, -⟩
    show ab_Z m_Mo_mayHave _ _ _ 13 [_, _, _, _] [_] _
    refine ab_br ok_Mo_mayHave rfl rfl ?_ ?_
    · intro h1
      show ab_Z m_Mo_mayHave _ _ _ 16 [_, _, _, _] [] _
      refine ab_go ok_Mo_mayHave 1 rfl ?_
      show ab_Z m_Mo_mayHave _ _ _ 17 [_, _, _, _] [_] _
      exact ab_rZ ok_Mo_mayHave rfl (by first | decide | exact bB_01 _ | exact bI_01 _) (⟨som (by rw [bB_0.mp h1]; rfl), s1, rfl, k1⟩)
    · intro h1
      show ab_Z m_Mo_mayHave _ _ _ 14 [_, _, _, _] [] _
      refine ab_go ok_Mo_mayHave 2 rfl ?_
      show ab_Z m_Mo_mayHave _ _ _ 17 [_, _, _, _] [_] _
      exact ab_rZ ok_Mo_mayHave rfl (by first | decide | exact bB_01 _ | exact bI_01 _) (⟨som (by rw [bB_n0 h1]; rfl), s1, rfl, k1⟩)
  · rw [if_pos rfl]
    refine ab_go ok_Mo_mayHave 1 rfl ?_
    show ab_Z m_Mo_mayHave _ _ _ 16 [_, _, _, _] [] _
    refine ab_go ok_Mo_mayHave 1 rfl ?_
    show ab_Z m_Mo_mayHave _ _ _ 17 [_, _, _, _] [_] _
    exact ab_rZ ok_Mo_mayHave rfl (by first | decide | exact bB_01 _ | exact bI_01 _) (⟨rfl, s, rfl, Kr.rf w2 s⟩)
theorem t_Mo_matchWith {c k u : Nat} (hc : c < 5) (hk : k < 6) (hu : u < 32) : ab_T g_Mo_matchWith d (0, 0) [.ref 81, .int (nI c), .int (nI k), .int (nI u)] (HA fm X s t) (PI (1 + s 122 (32 * (k + 1) + (u ||| 2 ^ c))) (HA fm X s t)) := by
  have hor := or_lt32 hu hc
  refine ab_T_of (M := m_Mo_matchWith) rfl rfl (Nat.le_of_ble_eq_true rfl) ?_
  show ab_Z m_Mo_matchWith _ _ _ 0 [_, _, _, _] [] _
  refine ab_go ok_Mo_matchWith 14 rfl ?_
  show ab_Z m_Mo_matchWith _ _ _ 14 [_, _, _, _] [_, _, _] _
  rw [nI_shl c (by omega), nI_or]
  refine ab_ia ok_Mo_matchWith rfl rfl (k := (32 * (k + 1) + (u ||| 2 ^ c))) (by rw [LL32, pk_mul, nI_add, nI_add]; congr 1) (by omega) (Nat.le_of_ble_eq_true rfl) ?_
  show ab_Z m_Mo_matchWith _ _ _ 15 [_, _, _, _] [_, _] _
  refine ab_go ok_Mo_matchWith 1 rfl ?_
  show ab_Z m_Mo_matchWith _ _ _ 16 [_, _, _, _] [_] _
  exact ab_rI ok_Mo_matchWith rfl (⟨rfl, rfl⟩)
theorem mtG_0 (V : Nat → Nat → Int32) (PT : List (List Ins)) (nc nd u : Nat) : mtG V PT nc nd nd u = 0 := by
  unfold mtG
  rw [Nat.sub_self]
  rfl
theorem mtG_s (V : Nat → Nat → Int32) (PT : List (List Ins)) (nc nd : Nat) {e : Nat} (he : e < nd) (u : Nat) : mtG V PT nc nd e u = mW (mtG V PT nc nd (e + 1)) (cfS V PT nc nd e) u 5 := by
  unfold mtG
  rw [show nd - e = nd - (e + 1) + 1 by omega, mF, show nd - (nd - (e + 1) + 1) = e by omega]
theorem mW_z (g : Nat → Int32) (u : Nat) : ∀ c, mW g 0 u c = g u
  | 0 => rfl
  | c + 1 => by rw [mW, Nat.zero_testBit, Bool.false_and, if_neg (by decide), mW_z g u c]
theorem mW_hi {g : Nat → Int32} {a u n : Nat} (h : ∀ i, n ≤ i → a.testBit i = false) : ∀ {c : Nat}, n ≤ c → mW g a u c = mW g a u n
  | 0, hc => by rw [Nat.le_zero.mp hc]
  | c + 1, hc => by
    rcases Nat.lt_or_ge c n with h1 | h1
    · rw [show n = c + 1 by omega]
    · rw [mW, h c h1, Bool.false_and, if_neg (by decide), mW_hi h h1]
theorem cfS_tb (V : Nat → Nat → Int32) (PT : List (List Ins)) (nc nd e i : Nat) : (cfS V PT nc nd e).testBit i = (decide (i < nc) && canB V PT nd i e) := tb_bitsN ..
theorem cfS_cl {V : Nat → Nat → Int32} {PT : List (List Ins)} {nc nd e : Nat} (h : openB V e = false) : cfS V PT nc nd e = 0 := bitsN_0 (fun _ _ => canB_op h)
theorem mtG_cl {V : Nat → Nat → Int32} {PT : List (List Ins)} {nc nd e : Nat} (he : e < nd) (h : openB V e = false) (u : Nat) : mtG V PT nc nd e u = mtG V PT nc nd (e + 1) u := by
  rw [mtG_s V PT nc nd he, cfS_cl h, mW_z]
theorem mtG_sk {V : Nat → Nat → Int32} {PT : List (List Ins)} {nc nd e u : Nat} : ∀ {e1 : Nat}, e ≤ e1 → e1 ≤ nd → (∀ j, e ≤ j → j < e1 → openB V j = false) → mtG V PT nc nd e u = mtG V PT nc nd e1 u
  | 0, h, _, _ => by rw [Nat.le_zero.mp h]
  | e1 + 1, h, h1, hn => by
    rcases Nat.lt_or_ge e1 e with h2 | h2
    · rw [show e = e1 + 1 by omega]
    · rw [mtG_sk h2 (by omega) (fun j a b => hn j a (by omega)), mtG_cl (by omega) (hn e1 h2 (by omega))]
def w7 (c k : Nat) : Bool := w2 c k || c == 122
theorem Kr.m27 {a b : Nat → Nat → Int32} (h : Kr w2 a b) : Kr w7 a b := fun x k p => h x k (by unfold w7 at p; exact (Bool.or_eq_false_iff.mp p).1)
theorem Kr.m74 {a b : Nat → Nat → Int32} (h : Kr w7 a b) : Kr w4 a b := fun x k p => h x k (by unfold w4 w3 at p; unfold w7; simp only [Bool.or_eq_false_iff] at p ⊢; exact ⟨p.1.1.1.1.1.1.1.1.1, p.1.1.2⟩)
theorem t_Mo_fillsMatch (hC : RC s lv T nc nd nt PT PG PB PF) : ab_T g_Mo_fillsMatch (d + 5) (0, 0) [.ref 81] (HA fm X s t) (fun v h => v = none ∧ ∃ s', h = HA fm X s' t ∧ Kr w4 s s' ∧ OpI s' (openB (vR T nc nd (s 114))) nd ∧ vR T nc nd (s' 115) = vR T nc nd (s 114) ∧ ∀ e u, e ≤ nd → u < 32 → s' 122 (32 * cntN (openB (vR T nc nd (s 114))) e + u) = mtG (vR T nc nd (s 114)) PT nc nd e u) := by
  have h5 := hC.1.2.2.1.2
  have h6 := hC.1.2.2.2.1.2
  have hlv := hC.1.2.1
  obtain ⟨V, hV⟩ : ∃ V, V = vR T nc nd (s 114) := ⟨_, rfl⟩
  rw [← hV]
  obtain ⟨p, hp⟩ : ∃ p, p = openB V := ⟨_, rfl⟩
  rw [← hp]
  obtain ⟨om, hom⟩ : ∃ om, om = cntN p nd := ⟨_, rfl⟩
  have hom6 : om ≤ 6 := by have := cnt_le p nd; omega
  generalize hPo : (fun v h => v = none ∧ ∃ s', h = HA fm X s' t ∧ Kr w4 s s' ∧ OpI s' p nd ∧ vR T nc nd (s' 115) = V ∧ ∀ e u, e ≤ nd → u < 32 → s' 122 (32 * cntN p e + u) = mtG V PT nc nd e u : Option Value → ab_H → Prop) = Po
  refine ab_T_of (M := m_Mo_fillsMatch) rfl rfl (Nat.le_of_ble_eq_true rfl) ?_
  show ab_Z m_Mo_fillsMatch _ _ _ 0 [_, _, _, _, _] [] _
  refine ab_go ok_Mo_fillsMatch 1 rfl ?_
  show ab_Z m_Mo_fillsMatch _ _ _ 1 [_, _, _, _, _] [_] _
  refine ab_cl ok_Mo_fillsMatch rfl [_] [] rfl ⟨_, _, rfl, rfl, Or.inl ⟨_, _, rfl, rfl⟩⟩ (Nat.le_of_ble_eq_true rfl) (t_Mo_fillsOpen (d + 1) fm X s T t hC.1) ?_
  rintro _ _ ⟨rfl, s1, rfl, k1, o1, -⟩
  show ab_Z m_Mo_fillsMatch _ _ _ 2 [_, _, _, _, _] [] _
  rw [← hV, ← hp] at o1
  have hC1 := hC.k k1.m64
  refine ab_go ok_Mo_fillsMatch 1 rfl ?_
  show ab_Z m_Mo_fillsMatch _ _ _ 3 [_, _, _, _, _] [_] _
  refine ab_cl ok_Mo_fillsMatch rfl [_] [] rfl ⟨_, _, rfl, rfl, Or.inl ⟨_, _, rfl, rfl⟩⟩ (Nat.le_of_ble_eq_true rfl) (t_Mo_copies' (d + 4) fm X s1 T t hC1) ?_
  rintro _ _ ⟨rfl, s2, rfl, k2, hC2, hv2, hl2, h40⟩
  show ab_Z m_Mo_fillsMatch _ _ _ 4 [_, _, _, _, _] [] _
  have o2 : OpI s2 p nd := OpI.of (k2 81 59 rfl) (k2.row (fun _ => rfl)) o1
  have hv2' : vR T nc nd (s2 115) = V := by rw [hv2, k1.row (c := 114) (fun _ => rfl), hV]
  have k12 : Kr w4 s s2 := k1.m64.tr k2.m34
  have done : ∀ s3, Kr w7 s2 s3 → (∀ e u, e ≤ nd → u < 32 → s3 122 (32 * cntN p e + u) = mtG V PT nc nd e u) → Po none (HA fm X s3 t) := by
    intro s3 k3 h
    rw [← hPo]
    exact ⟨rfl, s3, rfl, k12.tr k3.m74, OpI.of (k3 81 59 rfl) (k3.row (fun _ => rfl)) o2, by rw [k3.row (c := 115) (fun _ => rfl), hv2'], h⟩
  refine ab_go ok_Mo_fillsMatch 2 rfl ?_
  show ab_Z m_Mo_fillsMatch _ _ _ 6 [_, _, _, _, _] [] _
  refine lp_dn 32 (fun k => ∀ s3, Kr w7 s2 s3 → (∀ u, u < k → s3 122 (32 * om + u) = 0) → ab_Z m_Mo_fillsMatch (d + 5) (0, 0) Po 6 [some (.ref 81), some (.int (nI k)), none, none, none] [] (HA fm X s3 t)) ?_ ?_ s2 (Kr.rf w7 s2) (fun u hu => absurd hu (by omega))
  · intro s3 k3 z3
    refine ab_go ok_Mo_fillsMatch 2 rfl ?_
    show ab_Z m_Mo_fillsMatch _ _ _ 8 [_, _, _, _, _] [_, _] _
    refine ab_go ok_Mo_fillsMatch 1 rfl ?_
    show ab_Z m_Mo_fillsMatch _ _ _ 21 [_, _, _, _, _] [] _
    refine ab_go ok_Mo_fillsMatch 5 rfl ?_
    show ab_Z m_Mo_fillsMatch _ _ _ 26 [_, _, _, _, _] [] _
    rw [show s3 81 59 = nI om from by rw [k3 81 59 rfl, hom]; exact o2.1]
    have main : ∀ k, k ≤ om → ∀ s4, Kr w7 s2 s4 → (∀ e u, e ≤ nd → u < 32 → k ≤ cntN p e → s4 122 (32 * cntN p e + u) = mtG V PT nc nd e u) → ab_Z m_Mo_fillsMatch (d + 5) (0, 0) Po 26 [some (.ref 81), some (.int (nI k - 1)), none, none, none] [] (HA fm X s4 t) := by
      intro k
      induction k with
      | zero =>
        intro _ s4 k4 h4
        refine ab_go ok_Mo_fillsMatch 1 rfl ?_
        show ab_Z m_Mo_fillsMatch _ _ _ 27 [_, _, _, _, _] [_] _
        refine ab_go ok_Mo_fillsMatch 1 rfl ?_
        show ab_Z m_Mo_fillsMatch _ _ _ 87 [_, _, _, _, _] [] _
        exact ab_rV ok_Mo_fillsMatch rfl (done s4 k4 (fun e u he hu => h4 e u he hu (Nat.zero_le _)))
      | succ k ih =>
        intro hk s4 k4 h4
        rw [nI_sub1 (by omega), Nat.add_sub_cancel]
        obtain ⟨e0, he0, hp0, hc0⟩ := cnt_at p (show k < cntN p nd by omega)
        have hk0 : s4 120 k = nI e0 := by
          rw [k4.row (c := 120) (fun _ => rfl), ← hc0]
          exact o2.2 e0 he0 hp0
        have hcs : cntN p (e0 + 1) = k + 1 := by rw [cntN, hp0, hc0]; rfl
        have hop : openB V e0 = true := by rw [← hp]; exact hp0
        refine ab_go ok_Mo_fillsMatch 1 rfl ?_
        show ab_Z m_Mo_fillsMatch _ _ _ 27 [_, _, _, _, _] [_] _
        refine ab_br ok_Mo_fillsMatch rfl rfl ?_ ?_
        · intro h1
          show ab_Z m_Mo_fillsMatch _ _ _ 87 [_, _, _, _, _] [] _
          exact absurd h1 (nI_l0 (by omega))
        · intro h1
          show ab_Z m_Mo_fillsMatch _ _ _ 28 [_, _, _, _, _] [] _
          refine ab_go ok_Mo_fillsMatch 2 rfl ?_
          show ab_Z m_Mo_fillsMatch _ _ _ 30 [_, _, _, _, _] [] _
          have rowk : ∀ u, u ≤ 32 → ∀ s5, Kr w7 s2 s5 → (∀ e v, e ≤ nd → v < 32 → k + 1 ≤ cntN p e → s5 122 (32 * cntN p e + v) = mtG V PT nc nd e v) → (∀ v, v < u → s5 122 (32 * k + v) = mtG V PT nc nd e0 v) → ab_Z m_Mo_fillsMatch (d + 5) (0, 0) Po 30 [some (.ref 81), some (.int (nI k)), some (.int (nI u)), none, none] [] (HA fm X s5 t) := by
            intro u hu
            refine lp_dn (32 - u) (fun j => ∀ s5, Kr w7 s2 s5 → (∀ e v, e ≤ nd → v < 32 → k + 1 ≤ cntN p e → s5 122 (32 * cntN p e + v) = mtG V PT nc nd e v) → (∀ v, v < u + j → s5 122 (32 * k + v) = mtG V PT nc nd e0 v) → ab_Z m_Mo_fillsMatch (d + 5) (0, 0) Po 30 [some (.ref 81), some (.int (nI k)), some (.int (nI (u + j))), none, none] [] (HA fm X s5 t)) ?_ ?_
            · intro s5 k5 h5' r5
              rw [show u + (32 - u) = 32 by omega] at r5 ⊢
              refine ab_go ok_Mo_fillsMatch 2 rfl ?_
              show ab_Z m_Mo_fillsMatch _ _ _ 32 [_, _, _, _, _] [_, _] _
              refine ab_go ok_Mo_fillsMatch 1 rfl ?_
              show ab_Z m_Mo_fillsMatch _ _ _ 85 [_, _, _, _, _] [] _
              refine ab_go ok_Mo_fillsMatch 2 rfl ?_
              show ab_Z m_Mo_fillsMatch _ _ _ 26 [_, _, _, _, _] [] _
              rw [show nI k + (-1) = nI k - 1 from by rw [Int32.sub_eq_add_neg]]
              refine ih (by omega) s5 k5 (fun e v he hv hc => ?_)
              by_cases hek : cntN p e = k
              · have hee : e ≤ e0 := by
                  rcases Nat.lt_or_ge e0 e with h | h
                  · have := cnt_lt hp0 h; omega
                  · exact h
                rw [hek, r5 v hv]
                exact (mtG_sk hee (by omega) (fun j a b => by rw [← hp]; exact cnt_eq_no (hek.trans hc0.symm) j a b)).symm
              · exact h5' e v he hv (by omega)
            · intro j hj ihj s5 k5 h5' r5
              obtain ⟨v, hv⟩ : ∃ v, v = u + j := ⟨_, rfl⟩
              rw [← hv] at r5 ⊢
              have hv32 : v < 32 := by omega
              have hC5 := hC2.k k5.m74
              have hg : ∀ x, x < 32 → s5 122 (32 * (k + 1) + x) = mtG V PT nc nd (e0 + 1) x := fun x hx => by
                have := h5' (e0 + 1) x (by omega) hx (by omega)
                rwa [hcs] at this
              refine ab_go ok_Mo_fillsMatch 2 rfl ?_
              show ab_Z m_Mo_fillsMatch _ _ _ 32 [_, _, _, _, _] [_, _] _
              refine ab_br ok_Mo_fillsMatch rfl rfl ?_ ?_
              · intro h2
                show ab_Z m_Mo_fillsMatch _ _ _ 85 [_, _, _, _, _] [] _
                exact absurd h2 (lp_in (N := 32) (by decide) hv32)
              · intro h2
                show ab_Z m_Mo_fillsMatch _ _ _ 33 [_, _, _, _, _] [] _
                refine ab_go ok_Mo_fillsMatch 9 rfl ?_
                show ab_Z m_Mo_fillsMatch _ _ _ 42 [_, _, _, _, _] [_, _] _
                refine ab_ia ok_Mo_fillsMatch rfl rfl (k := (32 * (k + 1) + v)) (by rw [LL32, pk_mul, nI_add, nI_add]; congr 1) (by omega) (Nat.le_of_ble_eq_true rfl) ?_
                show ab_Z m_Mo_fillsMatch _ _ _ 43 [_, _, _, _, _] [_] _
                rw [hg v hv32]
                refine ab_go ok_Mo_fillsMatch 3 rfl ?_
                show ab_Z m_Mo_fillsMatch _ _ _ 46 [_, _, _, _, _] [] _
                refine lp_dn nc (fun c => ∀ s6, Kr w2 s5 s6 → ab_Z m_Mo_fillsMatch (d + 5) (0, 0) Po 46 [some (.ref 81), some (.int (nI k)), some (.int (nI v)), some (.int (mW (mtG V PT nc nd (e0 + 1)) (cfS V PT nc nd e0) v c)), some (.int (nI c))] [] (HA fm X s6 t)) ?_ ?_ s5 (Kr.rf w2 s5)
                · intro s6 k6
                  have hC6 := hC5.k k6.m24
                  refine ab_go ok_Mo_fillsMatch 5 rfl ?_
                  show ab_Z m_Mo_fillsMatch _ _ _ 51 [_, _, _, _, _] [_, _, _] _
                  rw [hC6.1.1]
                  refine ab_ia ok_Mo_fillsMatch rfl rfl (k := lv) (by first | rfl | (simp only [LL1, LL2, LL3, LL4, LL5, LL6, LL7, LL8, LL10, LL15, LL18, LL20, LL21, LL22, LL23, LL24, LL32, LL39, LL40, LL130, LL420, pk_mul, nI_add]; done) | (simp only [LL1, LL2, LL3, LL4, LL5, LL6, LL7, LL8, LL10, LL15, LL18, LL20, LL21, LL22, LL23, LL24, LL32, LL39, LL40, LL130, LL420, pk_mul, nI_add]; congr 1; omega)) (by omega) (Nat.le_of_ble_eq_true rfl) ?_
                  show ab_Z m_Mo_fillsMatch _ _ _ 52 [_, _, _, _, _] [_, _] _
                  rw [hC6.1.2.2.1.1]
                  refine ab_br ok_Mo_fillsMatch rfl rfl ?_ ?_
                  · intro h3
                    show ab_Z m_Mo_fillsMatch _ _ _ 74 [_, _, _, _, _] [] _
                    refine ab_go ok_Mo_fillsMatch 8 rfl ?_
                    show ab_Z m_Mo_fillsMatch _ _ _ 82 [_, _, _, _, _] [_, _, _] _
                    rw [← mW_hi (c := 5) (n := nc) (fun i hi => by rw [cfS_tb, decide_eq_false (show ¬ i < nc by omega), Bool.false_and]) h5, ← mtG_s V PT nc nd he0 v]
                    refine ab_is ok_Mo_fillsMatch rfl rfl (k := (32 * k + v)) (by first | rfl | (simp only [LL1, LL2, LL3, LL4, LL5, LL6, LL7, LL8, LL10, LL15, LL18, LL20, LL21, LL22, LL23, LL24, LL32, LL39, LL40, LL130, LL420, pk_mul, nI_add]; done) | (simp only [LL1, LL2, LL3, LL4, LL5, LL6, LL7, LL8, LL10, LL15, LL18, LL20, LL21, LL22, LL23, LL24, LL32, LL39, LL40, LL130, LL420, pk_mul, nI_add]; congr 1; omega)) (by omega) (Nat.le_of_ble_eq_true rfl) ?_
                    show ab_Z m_Mo_fillsMatch _ _ _ 83 [_, _, _, _, _] [] _
                    refine ab_go ok_Mo_fillsMatch 2 rfl ?_
                    show ab_Z m_Mo_fillsMatch _ _ _ 30 [_, _, _, _, _] [] _
                    have hq := ihj (ab_up s6 122 (32 * k + v) (mtG V PT nc nd e0 v)) (Kr.up rfl (k5.tr k6.m27)) (fun e x he hx hc => by
                        rw [ab_up_n (by omega), k6 122 _ rfl]
                        exact h5' e x he hx hc) (fun x hx => by
                        by_cases hxv : x = v
                        · subst hxv; exact ab_up_s ..
                        · rw [ab_up_n (by omega), k6 122 _ rfl]
                          exact r5 x (by omega))
                    rw [← Nat.add_assoc, ← hv, nI_succ] at hq
                    exact hq
                  · intro h3
                    show ab_Z m_Mo_fillsMatch _ _ _ 53 [_, _, _, _, _] [] _
                    exact absurd (lp_out nc) h3
                · intro c hc ihc s6 k6
                  have hC6 := hC5.k k6.m24
                  rw [mW, cfS_tb, decide_eq_true hc, Bool.true_and, nI_succ c] at ihc
                  have hv6 : vR T nc nd (s6 115) = V := by rw [k6.row (c := 115) (fun _ => rfl), k5.row (c := 115) (fun _ => rfl)]; exact hv2'
                  refine ab_go ok_Mo_fillsMatch 5 rfl ?_
                  show ab_Z m_Mo_fillsMatch _ _ _ 51 [_, _, _, _, _] [_, _, _] _
                  rw [hC6.1.1]
                  refine ab_ia ok_Mo_fillsMatch rfl rfl (k := lv) (by first | rfl | (simp only [LL1, LL2, LL3, LL4, LL5, LL6, LL7, LL8, LL10, LL15, LL18, LL20, LL21, LL22, LL23, LL24, LL32, LL39, LL40, LL130, LL420, pk_mul, nI_add]; done) | (simp only [LL1, LL2, LL3, LL4, LL5, LL6, LL7, LL8, LL10, LL15, LL18, LL20, LL21, LL22, LL23, LL24, LL32, LL39, LL40, LL130, LL420, pk_mul, nI_add]; congr 1; omega)) (by omega) (Nat.le_of_ble_eq_true rfl) ?_
                  show ab_Z m_Mo_fillsMatch _ _ _ 52 [_, _, _, _, _] [_, _] _
                  rw [hC6.1.2.2.1.1]
                  refine ab_br ok_Mo_fillsMatch rfl rfl ?_ ?_
                  · intro h3
                    show ab_Z m_Mo_fillsMatch _ _ _ 74 [_, _, _, _, _] [] _
                    exact absurd h3 (lp_in (by omega) hc)
                  · intro h3
                    show ab_Z m_Mo_fillsMatch _ _ _ 53 [_, _, _, _, _] [] _
                    refine ab_go ok_Mo_fillsMatch 4 rfl ?_
                    show ab_Z m_Mo_fillsMatch _ _ _ 57 [_, _, _, _, _] [_, _, _, _] _
                    refine ab_cl ok_Mo_fillsMatch rfl [_, _, _, _] [] rfl ⟨_, _, rfl, rfl, Or.inl ⟨_, _, rfl, rfl⟩⟩ (Nat.le_of_ble_eq_true rfl) (t_Mo_mayHave d fm X s6 T t hC6 hc (show k < 6 by omega) (by rw [k6 120 _ rfl, k5.row (c := 120) (fun _ => rfl), ← k4.row (c := 120) (fun _ => rfl)]; exact hk0) he0 hv32) ?_
                    rintro _ _ ⟨rfl, s7, rfl, k7⟩
                    show ab_Z m_Mo_fillsMatch _ _ _ 58 [_, _, _, _, _] [_] _
                    rw [hv6, Bool.and_comm]
                    have hg7 : s7 122 (32 * (k + 1) + (v ||| 2 ^ c)) = mtG V PT nc nd (e0 + 1) (v ||| 2 ^ c) := by
                      rw [k7 122 _ rfl, k6 122 _ rfl]
                      exact hg _ (or_lt32 hv32 (by omega))
                    have ihd := ihc s7 (k6.tr k7)
                    refine ab_br ok_Mo_fillsMatch rfl rfl ?_ ?_
                    · intro h4
                      show ab_Z m_Mo_fillsMatch _ _ _ 72 [_, _, _, _, _] [] _
                      refine ab_go ok_Mo_fillsMatch 2 rfl ?_
                      show ab_Z m_Mo_fillsMatch _ _ _ 46 [_, _, _, _, _] [] _
                      rw [if_neg (by rw [bB_0.mp h4]; decide)] at ihd
                      exact ihd
                    · intro h4
                      show ab_Z m_Mo_fillsMatch _ _ _ 59 [_, _, _, _, _] [] _
                      rw [if_pos (bB_n0 h4)] at ihd
                      refine ab_go ok_Mo_fillsMatch 4 rfl ?_
                      show ab_Z m_Mo_fillsMatch _ _ _ 63 [_, _, _, _, _] [_, _, _, _] _
                      refine ab_cl ok_Mo_fillsMatch rfl [_, _, _, _] [] rfl ⟨_, _, rfl, rfl, Or.inl ⟨_, _, rfl, rfl⟩⟩ (Nat.le_of_ble_eq_true rfl) (t_Mo_matchWith (d + 4) fm X s7 t (show c < 5 by omega) (show k < 6 by omega) hv32) ?_
                      rintro _ _ ⟨rfl, rfl⟩
                      show ab_Z m_Mo_fillsMatch _ _ _ 64 [_, _, _, _, _] [_] _
                      rw [hg7]
                      refine ab_go ok_Mo_fillsMatch 1 rfl ?_
                      show ab_Z m_Mo_fillsMatch _ _ _ 65 [_, _, _, _, _] [_, _] _
                      refine ab_br ok_Mo_fillsMatch rfl rfl ?_ ?_
                      · intro h7
                        show ab_Z m_Mo_fillsMatch _ _ _ 72 [_, _, _, _, _] [] _
                        refine ab_go ok_Mo_fillsMatch 2 rfl ?_
                        show ab_Z m_Mo_fillsMatch _ _ _ 46 [_, _, _, _, _] [] _
                        rw [mxF, if_neg (fun z => by have := i_lt z; have := i_le h7; omega)] at ihd
                        exact ihd
                      · intro h7
                        show ab_Z m_Mo_fillsMatch _ _ _ 66 [_, _, _, _, _] [] _
                        refine ab_go ok_Mo_fillsMatch 4 rfl ?_
                        show ab_Z m_Mo_fillsMatch _ _ _ 70 [_, _, _, _, _] [_, _, _, _] _
                        refine ab_cl ok_Mo_fillsMatch rfl [_, _, _, _] [] rfl ⟨_, _, rfl, rfl, Or.inl ⟨_, _, rfl, rfl⟩⟩ (Nat.le_of_ble_eq_true rfl) (t_Mo_matchWith (d + 4) fm X s7 t (show c < 5 by omega) (show k < 6 by omega) hv32) ?_
                        rintro _ _ ⟨rfl, rfl⟩
                        show ab_Z m_Mo_fillsMatch _ _ _ 71 [_, _, _, _, _] [_] _
                        rw [hg7]
                        refine ab_go ok_Mo_fillsMatch 3 rfl ?_
                        show ab_Z m_Mo_fillsMatch _ _ _ 46 [_, _, _, _, _] [] _
                        rw [mxF, if_pos (Int32.lt_iff_toInt_lt.mpr (i_nle h7))] at ihd
                        exact ihd
          exact rowk 0 (by omega) s4 k4 (fun e v he hv hc => h4 e v he hv hc) (fun v hv => absurd hv (by omega))
    refine main om (Nat.le_refl _) s3 k3 (fun e u he hu hc => ?_)
    have he2 : cntN p e = om := by have := cnt_mono p he; omega
    rw [he2, z3 u hu, mtG_sk he (Nat.le_refl nd) (fun j a b => by rw [← hp]; exact cnt_eq_no (he2.trans hom) j a b), mtG_0]
  · intro k hk ih s3 k3 z3
    rw [nI_succ k] at ih
    refine ab_go ok_Mo_fillsMatch 2 rfl ?_
    show ab_Z m_Mo_fillsMatch _ _ _ 8 [_, _, _, _, _] [_, _] _
    refine ab_br ok_Mo_fillsMatch rfl rfl ?_ ?_
    · intro h1
      show ab_Z m_Mo_fillsMatch _ _ _ 21 [_, _, _, _, _] [] _
      exact absurd h1 (lp_in (N := 32) (by decide) hk)
    · intro h1
      show ab_Z m_Mo_fillsMatch _ _ _ 9 [_, _, _, _, _] [] _
      refine ab_go ok_Mo_fillsMatch 9 rfl ?_
      show ab_Z m_Mo_fillsMatch _ _ _ 18 [_, _, _, _, _] [_, _, _] _
      rw [show s3 81 59 = nI om from by rw [k3 81 59 rfl, hom]; exact o2.1]
      refine ab_is ok_Mo_fillsMatch rfl rfl (k := (32 * om + k)) (by first | rfl | (simp only [LL1, LL2, LL3, LL4, LL5, LL6, LL7, LL8, LL10, LL15, LL18, LL20, LL21, LL22, LL23, LL24, LL32, LL39, LL40, LL130, LL420, pk_mul, nI_add]; done) | (simp only [LL1, LL2, LL3, LL4, LL5, LL6, LL7, LL8, LL10, LL15, LL18, LL20, LL21, LL22, LL23, LL24, LL32, LL39, LL40, LL130, LL420, pk_mul, nI_add]; congr 1; omega)) (by omega) (Nat.le_of_ble_eq_true rfl) ?_
      show ab_Z m_Mo_fillsMatch _ _ _ 19 [_, _, _, _, _] [] _
      refine ab_go ok_Mo_fillsMatch 2 rfl ?_
      show ab_Z m_Mo_fillsMatch _ _ _ 6 [_, _, _, _, _] [] _
      refine ih _ (Kr.up rfl k3) (fun u hu => ?_)
      by_cases huk : u = k
      · subst huk; exact ab_up_s ..
      · rw [ab_up_n (by omega)]
        exact z3 u (by omega)
end

