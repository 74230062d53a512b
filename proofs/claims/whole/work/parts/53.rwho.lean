/-! the reference's face: who it was -/
def RTo (s T : Nat → Nat → Int32) (nk : Nat) : Prop := s 81 63 = nI nk ∧ nk ≤ 20 ∧ ∀ i, i < nk → s 124 i = T 42 i ∧ s 125 i = T 43 i ∧ s 126 i = T 44 i ∧ ∃ f, f < 3 ∧ T 42 i = nI f
theorem RTo.k {s s' T : Nat → Nat → Int32} {nk : Nat} (h : Kr w4 s s') (hO : RTo s T nk) : RTo s' T nk := by
  refine ⟨(h 81 63 rfl).trans hO.1, hO.2.1, fun i hi => ?_⟩
  obtain ⟨a, b, c, e⟩ := hO.2.2 i hi
  exact ⟨(h 124 i rfl).trans a, (h 125 i rfl).trans b, (h 126 i rfl).trans c, e⟩
theorem bitsN_pc (p : Nat → Bool) : ∀ n, n ≤ 6 → pcN (bitsN p n) = cntN p n := by
  intro n hn
  unfold pcN
  rw [cntN_cg (q := fun i => decide (i < n) && p i) (fun i _ => tb_bitsN p n i)]
  have h : ∀ m, n ≤ m → cntN (fun i => decide (i < n) && p i) m = cntN p n := by
    intro m
    induction m with
    | zero => intro hm; rw [Nat.le_zero.mp hm]; rfl
    | succ m ih =>
      intro hm
      by_cases hmn : n = m + 1
      · subst hmn
        exact cntN_cg (fun k hk => by rw [decide_eq_true hk, Bool.true_and])
      · rw [cntN, ih (by omega), decide_eq_false (show ¬ m < n by omega)]
        rfl
  exact h 6 hn
theorem cnt_sp (p q : Nat → Bool) : ∀ n, cntN (fun c => p c && !q c) n + cntN (fun c => p c && q c) n = cntN p n
  | 0 => rfl
  | n + 1 => by
    have ih := cnt_sp p q n
    rw [cntN, cntN, cntN]
    cases p n <;> cases q n <;> simp <;> omega
theorem cnt_le (p : Nat → Bool) : ∀ n, cntN p n ≤ n
  | 0 => Nat.le_refl _
  | n + 1 => by have := cnt_le p n; rw [cntN]; split <;> omega
theorem lok_or (g : Nat → Int32) (b : Int32) : ∀ k, lokV g b k = (-2, bcF b + 1) ∨ ∃ j, j < k ∧ lokV g b k = (nI j, g j)
  | 0 => Or.inl rfl
  | k + 1 => by
    rw [lokV]
    split
    · exact Or.inr ⟨k, by omega, rfl⟩
    · rcases lok_or g b k with h | ⟨j, hj, h⟩
      · exact Or.inl h
      · exact Or.inr ⟨j, by omega, h⟩
section
variable (d : Nat) (fm : Value) (X : Nat × (Nat → Int32)) (s T : Nat → Nat → Int32) (t : Nat → Nat → Int64)
variable {lv nc nd nt nk : Nat} {PT PG PB PF : List (List Ins)}
theorem t_Mo_doesFit (hC : RC s lv T nc nd nt PT PG PB PF) (hO : RTo s T nk) {c e k : Nat} (hc : c < nc) (he : e < nd) (hk : k ≤ nk) : ab_T g_Mo_doesFit (d + 4) (0, 0) [.ref 81, .int (nI c), .int (nI e), .int (nI k)] (HA fm X s t) (PR w2 (bB (susB (vR T nc nd (s 115)) PT nd e k c)) fm X s t) := by
  have hk2 := hO.2.1
  generalize hVV : vR T nc nd (s 115) = V
  have hV : ∀ x, x ≠ 11 → V x = T x := fun x hx => by rw [← hVV]; exact vR_o hx
  refine ab_T_of (M := m_Mo_doesFit) rfl rfl (Nat.le_of_ble_eq_true rfl) ?_
  show ab_Z m_Mo_doesFit _ _ _ 0 [_, _, _, _, _] [] _
  refine ab_go ok_Mo_doesFit 3 rfl ?_
  show ab_Z m_Mo_doesFit _ _ _ 3 [_, _, _, _, _] [_, _, _] _
  refine ab_cl ok_Mo_doesFit rfl [_, _, _] [] rfl ⟨_, _, rfl, rfl, Or.inl ⟨_, _, rfl, rfl⟩⟩ (Nat.le_of_ble_eq_true rfl) (t_Mo_canSeal d fm X s T t hC hc he) ?_
  rintro _ _ ⟨rfl, s1, rfl, k1, h116⟩
  show ab_Z m_Mo_doesFit _ _ _ 4 [_, _, _, _, _] [_] _
  rw [hVV] at h116 ⊢
  refine ab_br ok_Mo_doesFit rfl rfl ?_ ?_
  · intro h1
    show ab_Z m_Mo_doesFit _ _ _ 5 [_, _, _, _, _] [] _
    refine ab_go ok_Mo_doesFit 1 rfl ?_
    show ab_Z m_Mo_doesFit _ _ _ 6 [_, _, _, _, _] [_] _
    exact ab_rZ ok_Mo_doesFit rfl (by first | decide | exact bB_01 _ | exact bI_01 _) (⟨som (by unfold susB; rw [bB_0.mp h1]; rfl), s1, rfl, k1⟩)
  · intro h1
    show ab_Z m_Mo_doesFit _ _ _ 7 [_, _, _, _, _] [] _
    have hcan := bB_n0 h1
    have h116' := h116 hcan
    have hsus : susB V PT nd e k c = fitB V (TV V PT nd c e) k := by unfold susB; rw [hcan, Bool.true_and]
    rw [hsus]
    generalize TV V PT nd c e = pr at h116' ⊢
    have hO1 := hO.k k1.m24
    refine ab_go ok_Mo_doesFit 2 rfl ?_
    show ab_Z m_Mo_doesFit _ _ _ 9 [_, _, _, _, _] [] _
    refine lp_dn k (fun i => fitB V pr i = true → ab_Z m_Mo_doesFit (d + 4) (0, 0) (PR w2 (bB (fitB V pr k)) fm X s t) 9 [some (.ref 81), none, none, some (.int (nI k)), some (.int (nI i))] [] (HA fm X s1 t)) ?_ ?_ rfl
    · intro hf
      rw [hf]
      refine ab_go ok_Mo_doesFit 2 rfl ?_
      show ab_Z m_Mo_doesFit _ _ _ 11 [_, _, _, _, _] [_, _] _
      refine ab_br ok_Mo_doesFit rfl rfl ?_ ?_
      · intro h2
        show ab_Z m_Mo_doesFit _ _ _ 36 [_, _, _, _, _] [] _
        refine ab_go ok_Mo_doesFit 1 rfl ?_
        show ab_Z m_Mo_doesFit _ _ _ 37 [_, _, _, _, _] [_] _
        exact ab_rZ ok_Mo_doesFit rfl (by first | decide | exact bB_01 _ | exact bI_01 _) (⟨rfl, s1, rfl, k1⟩)
      · intro h2
        show ab_Z m_Mo_doesFit _ _ _ 12 [_, _, _, _, _] [] _
        exact absurd (lp_out k) h2
    · intro i hi ih hf
      obtain ⟨o1, o2, o3, f, hf3, o4⟩ := hO1.2.2 i (by omega)
      have hS : fitB V pr (i + 1) = decide ((if pr f < T 43 i then (0 : Int32) else 1) = T 44 i) := by
        rw [fitB, hf, Bool.true_and, hV 42 (by decide), hV 43 (by decide), hV 44 (by decide), o4, nI_c (by omega)]
      refine ab_go ok_Mo_doesFit 2 rfl ?_
      show ab_Z m_Mo_doesFit _ _ _ 11 [_, _, _, _, _] [_, _] _
      refine ab_br ok_Mo_doesFit rfl rfl ?_ ?_
      · intro h2
        show ab_Z m_Mo_doesFit _ _ _ 36 [_, _, _, _, _] [] _
        exact absurd h2 (lp_in (by omega) hi)
      · intro h2
        show ab_Z m_Mo_doesFit _ _ _ 12 [_, _, _, _, _] [] _
        refine ab_go ok_Mo_doesFit 5 rfl ?_
        show ab_Z m_Mo_doesFit _ _ _ 17 [_, _, _, _, _] [_, _, _] _
        refine ab_ia ok_Mo_doesFit rfl rfl (k := i) (by first | rfl | (simp only [LL1, LL2, LL3, LL4, LL5, LL6, LL7, LL8, LL10, LL15, LL18, LL20, LL21, LL22, LL23, LL24, LL32, LL39, LL40, LL130, LL420, pk_mul, nI_add]; done) | (simp only [LL1, LL2, LL3, LL4, LL5, LL6, LL7, LL8, LL10, LL15, LL18, LL20, LL21, LL22, LL23, LL24, LL32, LL39, LL40, LL130, LL420, pk_mul, nI_add]; congr 1; omega)) (by omega) (Nat.le_of_ble_eq_true rfl) ?_
        show ab_Z m_Mo_doesFit _ _ _ 18 [_, _, _, _, _] [_, _] _
        rw [o1, o4]
        refine ab_ia ok_Mo_doesFit rfl rfl (k := f) (by first | rfl | (simp only [LL1, LL2, LL3, LL4, LL5, LL6, LL7, LL8, LL10, LL15, LL18, LL20, LL21, LL22, LL23, LL24, LL32, LL39, LL40, LL130, LL420, pk_mul, nI_add]; done) | (simp only [LL1, LL2, LL3, LL4, LL5, LL6, LL7, LL8, LL10, LL15, LL18, LL20, LL21, LL22, LL23, LL24, LL32, LL39, LL40, LL130, LL420, pk_mul, nI_add]; congr 1; omega)) (by omega) (Nat.le_of_ble_eq_true rfl) ?_
        show ab_Z m_Mo_doesFit _ _ _ 19 [_, _, _, _, _] [_] _
        rw [h116' f hf3]
        refine ab_go ok_Mo_doesFit 3 rfl ?_
        show ab_Z m_Mo_doesFit _ _ _ 22 [_, _, _, _, _] [_, _, _] _
        refine ab_ia ok_Mo_doesFit rfl rfl (k := i) (by first | rfl | (simp only [LL1, LL2, LL3, LL4, LL5, LL6, LL7, LL8, LL10, LL15, LL18, LL20, LL21, LL22, LL23, LL24, LL32, LL39, LL40, LL130, LL420, pk_mul, nI_add]; done) | (simp only [LL1, LL2, LL3, LL4, LL5, LL6, LL7, LL8, LL10, LL15, LL18, LL20, LL21, LL22, LL23, LL24, LL32, LL39, LL40, LL130, LL420, pk_mul, nI_add]; congr 1; omega)) (by omega) (Nat.le_of_ble_eq_true rfl) ?_
        show ab_Z m_Mo_doesFit _ _ _ 23 [_, _, _, _, _] [_, _] _
        rw [o2]
        have hcont : ∀ z : Int32, z = (if pr f < T 43 i then (0 : Int32) else 1) → ab_Z m_Mo_doesFit (d + 4) (0, 0) (PR w2 (bB (fitB V pr k)) fm X s t) 27 [some (.ref 81), none, none, some (.int (nI k)), some (.int (nI i))] [.int z] (HA fm X s1 t) := by
          intro z hz
          refine ab_go ok_Mo_doesFit 3 rfl ?_
          show ab_Z m_Mo_doesFit _ _ _ 30 [_, _, _, _, _] [_, _, _] _
          first | (refine ab_ba1 ok_Mo_doesFit rfl rfl (k := i) (by first | rfl | (simp only [LL1, LL2, LL3, LL4, LL5, LL6, LL7, LL8, LL10, LL15, LL18, LL20, LL21, LL22, LL23, LL24, LL32, LL39, LL40, LL130, LL420, pk_mul, nI_add]; done) | (simp only [LL1, LL2, LL3, LL4, LL5, LL6, LL7, LL8, LL10, LL15, LL18, LL20, LL21, LL22, LL23, LL24, LL32, LL39, LL40, LL130, LL420, pk_mul, nI_add]; congr 1; omega)) (by omega) (Nat.le_of_ble_eq_true rfl) ?_) | (refine ab_ba2 ok_Mo_doesFit rfl rfl (k := i) (by first | rfl | (simp only [LL1, LL2, LL3, LL4, LL5, LL6, LL7, LL8, LL10, LL15, LL18, LL20, LL21, LL22, LL23, LL24, LL32, LL39, LL40, LL130, LL420, pk_mul, nI_add]; done) | (simp only [LL1, LL2, LL3, LL4, LL5, LL6, LL7, LL8, LL10, LL15, LL18, LL20, LL21, LL22, LL23, LL24, LL32, LL39, LL40, LL130, LL420, pk_mul, nI_add]; congr 1; omega)) (by omega) (Nat.le_of_ble_eq_true rfl) ?_)
          show ab_Z m_Mo_doesFit _ _ _ 31 [_, _, _, _, _] [_, _] _
          rw [o3]
          refine ab_br ok_Mo_doesFit rfl rfl ?_ ?_
          · intro h4
            show ab_Z m_Mo_doesFit _ _ _ 34 [_, _, _, _, _] [] _
            refine ab_go ok_Mo_doesFit 2 rfl ?_
            show ab_Z m_Mo_doesFit _ _ _ 9 [_, _, _, _, _] [] _
            rw [nI_succ] at ih
            exact ih (by rw [hS, ← hz]; exact decide_eq_true h4)
          · intro h4
            show ab_Z m_Mo_doesFit _ _ _ 32 [_, _, _, _, _] [] _
            refine ab_go ok_Mo_doesFit 1 rfl ?_
            show ab_Z m_Mo_doesFit _ _ _ 33 [_, _, _, _, _] [_] _
            have h0 := fitB_no (s := V) (pr := pr) (i := i + 1) (by rw [hS, ← hz]; exact decide_eq_false h4) k (by omega)
            rw [h0]
            exact ab_rZ ok_Mo_doesFit rfl (by first | decide | exact bB_01 _ | exact bI_01 _) (⟨rfl, s1, rfl, k1⟩)
        refine ab_br ok_Mo_doesFit rfl rfl ?_ ?_
        · intro h3
          show ab_Z m_Mo_doesFit _ _ _ 26 [_, _, _, _, _] [] _
          refine ab_go ok_Mo_doesFit 1 rfl ?_
          show ab_Z m_Mo_doesFit _ _ _ 27 [_, _, _, _, _] [_] _
          exact hcont 0 (by rw [if_pos h3])
        · intro h3
          show ab_Z m_Mo_doesFit _ _ _ 24 [_, _, _, _, _] [] _
          refine ab_go ok_Mo_doesFit 2 rfl ?_
          show ab_Z m_Mo_doesFit _ _ _ 27 [_, _, _, _, _] [_] _
          exact hcont 1 (by rw [if_neg h3])
theorem t_Mo_whoBits (hC : RC s lv T nc nd nt PT PG PB PF) (hO : RTo s T nk) {e k : Nat} (he : e < nd) (hk : k ≤ nk) : ab_T g_Mo_whoBits (d + 5) (0, 0) [.ref 81, .int (nI k), .int (nI e)] (HA fm X s t) (fun v h => v = some (.int (nI (bitsN (susB (vR T nc nd (s 114)) PT nd e k) nc))) ∧ ∃ s', h = HA fm X s' t ∧ Kr w3 s s' ∧ vR T nc nd (s' 115) = vR T nc nd (s 114)) := by
  have hlv := hC.1.2.1
  have h5 := hC.1.2.2.1.2
  refine ab_T_of (M := m_Mo_whoBits) rfl rfl (Nat.le_of_ble_eq_true rfl) ?_
  show ab_Z m_Mo_whoBits _ _ _ 0 [_, _, _, _, _] [] _
  refine ab_go ok_Mo_whoBits 1 rfl ?_
  show ab_Z m_Mo_whoBits _ _ _ 1 [_, _, _, _, _] [_] _
  refine ab_cl ok_Mo_whoBits rfl [_] [] rfl ⟨_, _, rfl, rfl, Or.inl ⟨_, _, rfl, rfl⟩⟩ (Nat.le_of_ble_eq_true rfl) (t_Mo_copies' (d + 4) fm X s T t hC) ?_
  rintro _ _ ⟨rfl, s1, rfl, k1, hC1, hv1, hl1, h40⟩
  show ab_Z m_Mo_whoBits _ _ _ 2 [_, _, _, _, _] [] _
  generalize vR T nc nd (s 114) = V at hv1 ⊢
  refine ab_go ok_Mo_whoBits 4 rfl ?_
  show ab_Z m_Mo_whoBits _ _ _ 6 [_, _, _, _, _] [] _
  refine lp_dn nc (fun c => ∀ s2, Kr w2 s1 s2 → ab_Z m_Mo_whoBits (d + 5) (0, 0) (fun v h => v = some (.int (nI (bitsN (susB V PT nd e k) nc))) ∧ ∃ s', h = HA fm X s' t ∧ Kr w3 s s' ∧ vR T nc nd (s' 115) = V) 6 [some (.ref 81), some (.int (nI k)), some (.int (nI e)), some (.int (nI (bitsN (susB V PT nd e k) c))), some (.int (nI c))] [] (HA fm X s2 t)) ?_ ?_ s1 (Kr.rf w2 s1)
  · intro s2 k2
    have hC2 := hC1.k k2.m24
    refine ab_go ok_Mo_whoBits 5 rfl ?_
    show ab_Z m_Mo_whoBits _ _ _ 11 [_, _, _, _, _] [_, _, _] _
    rw [hC2.1.1]
    refine ab_ia ok_Mo_whoBits rfl rfl (k := lv) (by first | rfl | (simp only [LL1, LL2, LL3, LL4, LL5, LL6, LL7, LL8, LL10, LL15, LL18, LL20, LL21, LL22, LL23, LL24, LL32, LL39, LL40, LL130, LL420, pk_mul, nI_add]; done) | (simp only [LL1, LL2, LL3, LL4, LL5, LL6, LL7, LL8, LL10, LL15, LL18, LL20, LL21, LL22, LL23, LL24, LL32, LL39, LL40, LL130, LL420, pk_mul, nI_add]; congr 1; omega)) (by omega) (Nat.le_of_ble_eq_true rfl) ?_
    show ab_Z m_Mo_whoBits _ _ _ 12 [_, _, _, _, _] [_, _] _
    rw [hC2.1.2.2.1.1]
    refine ab_br ok_Mo_whoBits rfl rfl ?_ ?_
    · intro h1
      show ab_Z m_Mo_whoBits _ _ _ 27 [_, _, _, _, _] [] _
      refine ab_go ok_Mo_whoBits 1 rfl ?_
      show ab_Z m_Mo_whoBits _ _ _ 28 [_, _, _, _, _] [_] _
      exact ab_rI ok_Mo_whoBits rfl (⟨rfl, s2, rfl, k1.tr k2.m23, by rw [k2.row (c := 115) (fun _ => rfl), hv1]⟩)
    · intro h1
      show ab_Z m_Mo_whoBits _ _ _ 13 [_, _, _, _, _] [] _
      exact absurd (lp_out nc) h1
  · intro c hc ih s2 k2
    have hC2 := hC1.k k2.m24
    refine ab_go ok_Mo_whoBits 5 rfl ?_
    show ab_Z m_Mo_whoBits _ _ _ 11 [_, _, _, _, _] [_, _, _] _
    rw [hC2.1.1]
    refine ab_ia ok_Mo_whoBits rfl rfl (k := lv) (by first | rfl | (simp only [LL1, LL2, LL3, LL4, LL5, LL6, LL7, LL8, LL10, LL15, LL18, LL20, LL21, LL22, LL23, LL24, LL32, LL39, LL40, LL130, LL420, pk_mul, nI_add]; done) | (simp only [LL1, LL2, LL3, LL4, LL5, LL6, LL7, LL8, LL10, LL15, LL18, LL20, LL21, LL22, LL23, LL24, LL32, LL39, LL40, LL130, LL420, pk_mul, nI_add]; congr 1; omega)) (by omega) (Nat.le_of_ble_eq_true rfl) ?_
    show ab_Z m_Mo_whoBits _ _ _ 12 [_, _, _, _, _] [_, _] _
    rw [hC2.1.2.2.1.1]
    refine ab_br ok_Mo_whoBits rfl rfl ?_ ?_
    · intro h1
      show ab_Z m_Mo_whoBits _ _ _ 27 [_, _, _, _, _] [] _
      exact absurd h1 (lp_in (by omega) hc)
    · intro h1
      show ab_Z m_Mo_whoBits _ _ _ 13 [_, _, _, _, _] [] _
      refine ab_go ok_Mo_whoBits 4 rfl ?_
      show ab_Z m_Mo_whoBits _ _ _ 17 [_, _, _, _, _] [_, _, _, _] _
      refine ab_cl ok_Mo_whoBits rfl [_, _, _, _] [] rfl ⟨_, _, rfl, rfl, Or.inl ⟨_, _, rfl, rfl⟩⟩ (Nat.le_of_ble_eq_true rfl) (t_Mo_doesFit d fm X s2 T t hC2 ((hO.k k1.m34).k k2.m24) hc he hk) ?_
      rintro _ _ ⟨rfl, s3, rfl, k3⟩
      show ab_Z m_Mo_whoBits _ _ _ 18 [_, _, _, _, _] [_] _
      rw [k2.row (c := 115) (fun _ => rfl), hv1]
      have ih2 := ih s3 (k2.tr k3)
      refine ab_br ok_Mo_whoBits rfl rfl ?_ ?_
      · intro hx
        show ab_Z m_Mo_whoBits _ _ _ 25 [_, _, _, _, _] [] _
        refine ab_go ok_Mo_whoBits 2 rfl ?_
        show ab_Z m_Mo_whoBits _ _ _ 6 [_, _, _, _, _] [] _
        rw [bitsN_no (susB V PT nd e k) (bB_0.mp hx), nI_succ] at ih2
        exact ih2
      · intro hx
        show ab_Z m_Mo_whoBits _ _ _ 19 [_, _, _, _, _] [] _
        refine ab_go ok_Mo_whoBits 8 rfl ?_
        show ab_Z m_Mo_whoBits _ _ _ 6 [_, _, _, _, _] [] _
        rw [bitsN_or (susB V PT nd e k) (by omega) (bB_n0 hx), ← nI_succ]
        exact ih2
theorem t_Mo_who (hC : RC s lv T nc nd nt PT PG PB PF) (hO : RTo s T nk) (x y w : Int32) : ab_T g_Mo_who (d + 6) (0, 0) [.ref 81, .int x, .int y, .int w] (HA fm X s t) (PR w4 (if whoOk (vR T nc nd (s 114)) nk nd x y ∧ (w = 0 ∨ w = 1) then (if w = 0 then bcF (nI (bitsN (susB (vR T nc nd (s 114)) PT nd y.toNatClampNeg x.toNatClampNeg) nc)) else nI (bitsN (susB (vR T nc nd (s 114)) PT nd y.toNatClampNeg x.toNatClampNeg) nc)) else -1) fm X s t) := by
  have h5 := hC.1.2.2.1.2
  have h6 := hC.1.2.2.2.1.2
  have hk20 := hO.2.1
  generalize hPo : PR w4 (if whoOk (vR T nc nd (s 114)) nk nd x y ∧ (w = 0 ∨ w = 1) then (if w = 0 then bcF (nI (bitsN (susB (vR T nc nd (s 114)) PT nd y.toNatClampNeg x.toNatClampNeg) nc)) else nI (bitsN (susB (vR T nc nd (s 114)) PT nd y.toNatClampNeg x.toNatClampNeg) nc)) else -1) fm X s t = Po
  have no : ¬ (whoOk (vR T nc nd (s 114)) nk nd x y ∧ (w = 0 ∨ w = 1)) → ab_Z m_Mo_who (d + 6) (0, 0) Po 15 [some (.ref 81), some (.int x), some (.int y), some (.int w), none] [] (HA fm X s t) := by
    intro hn
    rw [if_neg hn] at hPo
    refine ab_go ok_Mo_who 1 rfl ?_
    show ab_Z m_Mo_who _ _ _ 16 [_, _, _, _, _] [_] _
    have fin : Po (some (.int (-1))) (HA fm X s t) := by
      rw [← hPo]
      exact ⟨rfl, s, rfl, Kr.rf w4 s⟩
    exact ab_rI ok_Mo_who rfl (fin)
  refine ab_T_of (M := m_Mo_who) rfl rfl (Nat.le_of_ble_eq_true rfl) ?_
  show ab_Z m_Mo_who _ _ _ 0 [_, _, _, _, _] [] _
  refine ab_go ok_Mo_who 4 rfl ?_
  show ab_Z m_Mo_who _ _ _ 4 [_, _, _, _, _] [_, _, _] _
  rw [hO.1]
  refine ab_cl ok_Mo_who rfl [_, _, _] [] rfl rfl (Nat.le_of_ble_eq_true rfl) (t_Mo_in (d + 5) _ x 0 (nI nk)) ?_
  rintro _ _ ⟨rfl, rfl⟩
  show ab_Z m_Mo_who _ _ _ 5 [_, _, _, _, _] [_] _
  rw [bI_c (show (0 : Int32).toInt ≤ x.toInt ∧ x.toInt ≤ (nI nk).toInt ↔ inR (nk + 1) x from by
    rw [nI_t (by omega)]
    show (0 : Int) ≤ x.toInt ∧ x.toInt ≤ (nk : Int) ↔ _
    unfold inR
    omega)]
  refine ab_br ok_Mo_who rfl rfl ?_ ?_
  · intro h1
    show ab_Z m_Mo_who _ _ _ 15 [_, _, _, _, _] [] _
    exact no (fun q => bI_0.mp h1 q.1.1)
  · intro h1
    show ab_Z m_Mo_who _ _ _ 6 [_, _, _, _, _] [] _
    refine ab_go ok_Mo_who 2 rfl ?_
    show ab_Z m_Mo_who _ _ _ 8 [_, _, _, _, _] [_, _] _
    refine ab_cl ok_Mo_who rfl [_, _] [] rfl ⟨_, _, rfl, rfl, Or.inl ⟨_, _, rfl, rfl⟩⟩ (Nat.le_of_ble_eq_true rfl) (t_Mo_isOpen (d + 3) fm X s T t hC.1 y) ?_
    rintro _ _ ⟨rfl, rfl⟩
    show ab_Z m_Mo_who _ _ _ 9 [_, _, _, _, _] [_] _
    refine ab_br ok_Mo_who rfl rfl ?_ ?_
    · intro h2
      show ab_Z m_Mo_who _ _ _ 15 [_, _, _, _, _] [] _
      exact no (fun q => bI_0.mp h2 q.1.2)
    · intro h2
      show ab_Z m_Mo_who _ _ _ 10 [_, _, _, _, _] [] _
      refine ab_go ok_Mo_who 3 rfl ?_
      show ab_Z m_Mo_who _ _ _ 13 [_, _, _, _, _] [_, _, _] _
      refine ab_cl ok_Mo_who rfl [_, _, _] [] rfl rfl (Nat.le_of_ble_eq_true rfl) (t_Mo_in (d + 5) _ w 0 1) ?_
      rintro _ _ ⟨rfl, rfl⟩
      show ab_Z m_Mo_who _ _ _ 14 [_, _, _, _, _] [_] _
      rw [bI_c (in01 w)]
      refine ab_br ok_Mo_who rfl rfl ?_ ?_
      · intro h3
        show ab_Z m_Mo_who _ _ _ 15 [_, _, _, _, _] [] _
        exact no (fun q => bI_0.mp h3 q.2)
      · intro h3
        show ab_Z m_Mo_who _ _ _ 17 [_, _, _, _, _] [] _
        rw [if_pos ⟨⟨bI_n0 h1, bI_n0 h2⟩, bI_n0 h3⟩] at hPo
        obtain ⟨k, hk, rfl⟩ := inR_nat (bI_n0 h1)
        obtain ⟨e, he, rfl⟩ := inR_nat (bI_n0 h2).1
        rw [nI_c (by omega), nI_c (by omega)] at hPo
        refine ab_go ok_Mo_who 3 rfl ?_
        show ab_Z m_Mo_who _ _ _ 20 [_, _, _, _, _] [_, _, _] _
        refine ab_cl ok_Mo_who rfl [_, _, _] [] rfl ⟨_, _, rfl, rfl, Or.inl ⟨_, _, rfl, rfl⟩⟩ (Nat.le_of_ble_eq_true rfl) (t_Mo_whoBits d fm X s T t hC hO he (show k ≤ nk by omega)) ?_
        rintro _ _ ⟨rfl, s1, rfl, k1, hv1⟩
        show ab_Z m_Mo_who _ _ _ 21 [_, _, _, _, _] [_] _
        refine ab_go ok_Mo_who 2 rfl ?_
        show ab_Z m_Mo_who _ _ _ 23 [_, _, _, _, _] [_] _
        refine ab_br ok_Mo_who rfl rfl ?_ ?_
        · intro h4
          show ab_Z m_Mo_who _ _ _ 24 [_, _, _, _, _] [] _
          rw [if_pos h4] at hPo
          refine ab_go ok_Mo_who 1 rfl ?_
          show ab_Z m_Mo_who _ _ _ 25 [_, _, _, _, _] [_] _
          refine ab_cl ok_Mo_who rfl [_] [] rfl rfl (Nat.le_of_ble_eq_true rfl) (t_Mo_bits (d + 5) _ (Nat.lt_of_lt_of_le (bitsN_lt _ nc) (Nat.pow_le_pow_right (by decide) (show nc ≤ 6 by omega) : 2 ^ nc ≤ 2 ^ 6))) ?_
          rintro _ _ ⟨rfl, rfl⟩
          show ab_Z m_Mo_who _ _ _ 26 [_, _, _, _, _] [_] _
          refine ab_go ok_Mo_who 1 rfl ?_
          show ab_Z m_Mo_who _ _ _ 28 [_, _, _, _, _] [_] _
          have fin : Po (some (.int (bcF (nI (bitsN (susB (vR T nc nd (s 114)) PT nd e k) nc))))) (HA fm X s1 t) := by
            rw [← hPo]
            exact ⟨rfl, s1, rfl, k1.m34⟩
          exact ab_rI ok_Mo_who rfl (fin)
        · intro h4
          show ab_Z m_Mo_who _ _ _ 27 [_, _, _, _, _] [] _
          rw [if_neg h4] at hPo
          refine ab_go ok_Mo_who 1 rfl ?_
          show ab_Z m_Mo_who _ _ _ 28 [_, _, _, _, _] [_] _
          have fin : Po (some (.int (nI (bitsN (susB (vR T nc nd (s 114)) PT nd e k) nc)))) (HA fm X s1 t) := by
            rw [← hPo]
            exact ⟨rfl, s1, rfl, k1.m34⟩
          exact ab_rI ok_Mo_who rfl (fin)
end

