/-! the reference: text, row, what laws make of them -/
theorem RLaw.ok {s : Nat → Nat → Int32} {q : Nat} {P pl : List (List Ins)} (h : RLaw s q P pl) (hp : ∀ Q ∈ pl, okQ Q 0) : ∀ Q ∈ P, okQ Q 0 := by
  have hB : ∀ n b P, RBr s b n P → ∀ Q ∈ P, okQ Q 0 := by
    intro n
    induction n with
    | zero =>
      intro b P h Q hQ
      obtain ⟨c, x, rfl, -, -, -, e⟩ := h
      rw [List.mem_singleton] at hQ
      subst hQ
      exact e.2.2
    | succ n ih =>
      intro b P h Q hQ
      obtain ⟨a, e, c, P', x, rfl, -, -, -, -, -, c1, c2, c3, hB'⟩ := h
      rcases List.mem_cons.mp hQ with rfl | hQ
      · exact c1.2.2
      · rcases List.mem_cons.mp hQ with rfl | hQ
        · exact c2.2.2
        · rcases List.mem_cons.mp hQ with rfl | hQ
          · exact c3.2.2
          · exact ih _ _ hB' Q hQ
  rcases h with ⟨-, rfl⟩ | ⟨f, n, -, -, -, h⟩
  · exact hp
  · exact hB n f P h
abbrev plT0 : List (List Ins) := [[(1, 0)]]
abbrev plG0 : List (List Ins) := [[(0, 0)]]
abbrev plB0 : List (List Ins) := [[(1, 3)]]
theorem plT0_ok : ∀ Q ∈ plT0, okQ Q 0 := by
  intro Q hQ
  rw [List.mem_singleton] at hQ
  subst hQ
  exact ⟨⟨by decide, by decide⟩, rfl⟩
theorem plG0_ok : ∀ Q ∈ plG0, okQ Q 0 := by
  intro Q hQ
  rw [List.mem_singleton] at hQ
  subst hQ
  exact ⟨⟨by decide, by decide⟩, rfl⟩
theorem plB0_ok : ∀ Q ∈ plB0, okQ Q 0 := by
  intro Q hQ
  rw [List.mem_singleton] at hQ
  subst hQ
  exact ⟨⟨by decide, by decide⟩, rfl⟩
def RLs (s : Nat → Nat → Int32) (lv : Nat) (PT PG PB PF : List (List Ins)) : Prop := RLaw s (4 * lv) PT plT0 ∧ RLaw s (4 * lv + 1) PG plG0 ∧ RLaw s (4 * lv + 2) PB plB0 ∧ RLaw s (4 * lv + 3) PF plG0
theorem RLs.k {s s' : Nat → Nat → Int32} {lv : Nat} {PT PG PB PF : List (List Ins)} (h : Kr w4 s s') (hL : RLs s lv PT PG PB PF) : RLs s' lv PT PG PB PF := ⟨hL.1.k h, hL.2.1.k h, hL.2.2.1.k h, hL.2.2.2.k h⟩
/-- the reference's text and laws -/
def RC (s : Nat → Nat → Int32) (lv : Nat) (T : Nat → Nat → Int32) (nc nd nt : Nat) (PT PG PB PF : List (List Ins)) : Prop := RT s lv T nc nd nt ∧ RLs s lv PT PG PB PF
theorem RC.k {s s' T : Nat → Nat → Int32} {lv nc nd nt : Nat} {PT PG PB PF : List (List Ins)} (h : Kr w4 s s') (hC : RC s lv T nc nd nt PT PG PB PF) : RC s' lv T nc nd nt PT PG PB PF := ⟨hC.1.k h, hC.2.k h⟩
theorem nsV_v {T : Nat → Nat → Int32} {nc nd : Nat} {r : Nat → Int32} (h5 : nc ≤ 5) (h6 : nd ≤ 6) (c : Nat) : nsV (vR T nc nd r) nd c = bcF (nI (bitsN (fun k => decide (r (15 + k) = nI c)) nd)) := by
  unfold nsV
  rw [bitsN_cg (fun k hk => by rw [vR_s h5 h6 hk])]
def lk0 (s : Nat → Nat → Int32) : Nat → Nat → Int32 := ab_up (ab_ro s 112 (fun j => if j < 9 then 0 else s 112 j)) 112 5 (s 115 39)
def lk1 (s T : Nat → Nat → Int32) (nd c : Nat) : Nat → Nat → Int32 := ab_up (ab_up (ab_up (lk0 s) 112 2 (T 16 c + s 115 39)) 112 6 (bcF (nI (bitsN (fun k => decide (s 115 (15 + k) = nI c)) nd)))) 112 7 (nI c)
theorem lk0_k (s : Nat → Nat → Int32) : Kr w1 s (lk0 s) := Kr.up rfl (Kr.ro (fun _ => rfl) (Kr.rf w1 s))
theorem lk1_k (s T : Nat → Nat → Int32) (nd c : Nat) : Kr w1 s (lk1 s T nd c) := Kr.up rfl (Kr.up rfl (Kr.up rfl (lk0_k s)))
theorem Kr.m14 {a b : Nat → Nat → Int32} (h : Kr w1 a b) : Kr w4 a b := h.m12.m23.m34
theorem Kr.m24 {a b : Nat → Nat → Int32} (h : Kr w2 a b) : Kr w4 a b := h.m23.m34
section
variable (d : Nat) (fm : Value) (X : Nat × (Nat → Int32)) (s T : Nat → Nat → Int32) (t : Nat → Nat → Int64)
variable {lv nc nd nt : Nat} {PT PG PB PF : List (List Ins)}
theorem t_Mo_isClerk (hR : RT s lv T nc nd nt) (x : Int32) : ab_T g_Mo_isClerk (d + 1) (0, 0) [.ref 81, .int x] (HA fm X s t) (PI (bI (inR nc x)) (HA fm X s t)) := by
  have h2 := hR.2.1
  have h5 := hR.2.2.1.2
  refine ab_T_of (M := m_Mo_isClerk) rfl rfl (Nat.le_of_ble_eq_true rfl) ?_
  show ab_Z m_Mo_isClerk _ _ _ 0 [_, _] [] _
  refine ab_go ok_Mo_isClerk 6 rfl ?_
  show ab_Z m_Mo_isClerk _ _ _ 6 [_, _] [_, _, _, _] _
  rw [hR.1]
  refine ab_ia ok_Mo_isClerk rfl rfl (k := lv) (by first | rfl | (simp only [LL1, LL2, LL3, LL4, LL5, LL6, LL7, LL8, LL10, LL15, LL18, LL20, LL21, LL22, LL23, LL24, LL32, LL39, LL40, LL130, LL420, pk_mul, nI_add]; done) | (simp only [LL1, LL2, LL3, LL4, LL5, LL6, LL7, LL8, LL10, LL15, LL18, LL20, LL21, LL22, LL23, LL24, LL32, LL39, LL40, LL130, LL420, pk_mul, nI_add]; congr 1; omega)) (by omega) (Nat.le_of_ble_eq_true rfl) ?_
  show ab_Z m_Mo_isClerk _ _ _ 7 [_, _] [_, _, _] _
  rw [hR.2.2.1.1]
  refine ab_go ok_Mo_isClerk 2 rfl ?_
  show ab_Z m_Mo_isClerk _ _ _ 9 [_, _] [_, _, _] _
  refine ab_cl ok_Mo_isClerk rfl [_, _, _] [] rfl rfl (Nat.le_of_ble_eq_true rfl) (t_Mo_in d _ x 0 _) ?_
  rintro _ _ ⟨rfl, rfl⟩
  show ab_Z m_Mo_isClerk _ _ _ 10 [_, _] [_] _
  refine ab_rZ ok_Mo_isClerk rfl (by first | decide | exact bB_01 _ | exact bI_01 _) (⟨?_, rfl⟩)
  rw [bI_c (show (0 : Int32).toInt ≤ x.toInt ∧ x.toInt ≤ (nI nc - 1).toInt ↔ inR nc x from by
    rw [nI_sub1T (by omega)]
    show (0 : Int) ≤ x.toInt ∧ x.toInt ≤ (nc : Int) - 1 ↔ _
    unfold inR
    omega)]
theorem t_Mo_isDeed (hR : RT s lv T nc nd nt) (x : Int32) : ab_T g_Mo_isDeed (d + 1) (0, 0) [.ref 81, .int x] (HA fm X s t) (PI (bI (inR nd x)) (HA fm X s t)) := by
  have h2 := hR.2.1
  have h5 := hR.2.2.2.1.2
  refine ab_T_of (M := m_Mo_isDeed) rfl rfl (Nat.le_of_ble_eq_true rfl) ?_
  show ab_Z m_Mo_isDeed _ _ _ 0 [_, _] [] _
  refine ab_go ok_Mo_isDeed 6 rfl ?_
  show ab_Z m_Mo_isDeed _ _ _ 6 [_, _] [_, _, _, _] _
  rw [hR.1]
  refine ab_ia ok_Mo_isDeed rfl rfl (k := lv) (by first | rfl | (simp only [LL1, LL2, LL3, LL4, LL5, LL6, LL7, LL8, LL10, LL15, LL18, LL20, LL21, LL22, LL23, LL24, LL32, LL39, LL40, LL130, LL420, pk_mul, nI_add]; done) | (simp only [LL1, LL2, LL3, LL4, LL5, LL6, LL7, LL8, LL10, LL15, LL18, LL20, LL21, LL22, LL23, LL24, LL32, LL39, LL40, LL130, LL420, pk_mul, nI_add]; congr 1; omega)) (by omega) (Nat.le_of_ble_eq_true rfl) ?_
  show ab_Z m_Mo_isDeed _ _ _ 7 [_, _] [_, _, _] _
  rw [hR.2.2.2.1.1]
  refine ab_go ok_Mo_isDeed 2 rfl ?_
  show ab_Z m_Mo_isDeed _ _ _ 9 [_, _] [_, _, _] _
  refine ab_cl ok_Mo_isDeed rfl [_, _, _] [] rfl rfl (Nat.le_of_ble_eq_true rfl) (t_Mo_in d _ x 0 _) ?_
  rintro _ _ ⟨rfl, rfl⟩
  show ab_Z m_Mo_isDeed _ _ _ 10 [_, _] [_] _
  refine ab_rZ ok_Mo_isDeed rfl (by first | decide | exact bB_01 _ | exact bI_01 _) (⟨?_, rfl⟩)
  rw [bI_c (show (0 : Int32).toInt ≤ x.toInt ∧ x.toInt ≤ (nI nd - 1).toInt ↔ inR nd x from by
    rw [nI_sub1T (by omega)]
    show (0 : Int) ≤ x.toInt ∧ x.toInt ≤ (nd : Int) - 1 ↔ _
    unfold inR
    omega)]
theorem t_Mo_firstLevel (hR : RT s lv T nc nd nt) {c f : Nat} (hc : c < nc) (hf : f < 3) : ab_T g_Mo_firstLevel d (0, 0) [.ref 81, .int (nI c), .int (nI f)] (HA fm X s t) (PI (T 17 (3 * c + f)) (HA fm X s t)) := by
  have h2 := hR.2.1
  have h5 := hR.2.2.1.2
  refine ab_T_of (M := m_Mo_firstLevel) rfl rfl (Nat.le_of_ble_eq_true rfl) ?_
  show ab_Z m_Mo_firstLevel _ _ _ 0 [_, _, _] [] _
  refine ab_go ok_Mo_firstLevel 12 rfl ?_
  show ab_Z m_Mo_firstLevel _ _ _ 12 [_, _, _] [_, _] _
  rw [hR.1]
  refine ab_ia ok_Mo_firstLevel rfl rfl (k := (15 * lv + 3 * c + f)) (by first | rfl | (simp only [LL1, LL2, LL3, LL4, LL5, LL6, LL7, LL8, LL10, LL15, LL18, LL20, LL21, LL22, LL23, LL24, LL32, LL39, LL40, LL130, LL420, pk_mul, nI_add]; done) | (simp only [LL1, LL2, LL3, LL4, LL5, LL6, LL7, LL8, LL10, LL15, LL18, LL20, LL21, LL22, LL23, LL24, LL32, LL39, LL40, LL130, LL420, pk_mul, nI_add]; congr 1; omega)) (by omega) (Nat.le_of_ble_eq_true rfl) ?_
  show ab_Z m_Mo_firstLevel _ _ _ 13 [_, _, _] [_] _
  rw [hR.2.2.2.2.2.2.1 c f hc hf]
  exact ab_rI ok_Mo_firstLevel rfl (⟨rfl, rfl⟩)
theorem t_Mo_needAt (hR : RT s lv T nc nd nt) {e f : Nat} (he : e < nd) (hf : f < 3) : ab_T g_Mo_needAt d (0, 0) [.ref 81, .int (nI e), .int (nI f)] (HA fm X s t) (PI (T 20 (3 * e + f)) (HA fm X s t)) := by
  have h2 := hR.2.1
  have h6 := hR.2.2.2.1.2
  refine ab_T_of (M := m_Mo_needAt) rfl rfl (Nat.le_of_ble_eq_true rfl) ?_
  show ab_Z m_Mo_needAt _ _ _ 0 [_, _, _] [] _
  refine ab_go ok_Mo_needAt 12 rfl ?_
  show ab_Z m_Mo_needAt _ _ _ 12 [_, _, _] [_, _] _
  rw [hR.1]
  refine ab_ia ok_Mo_needAt rfl rfl (k := (18 * lv + 3 * e + f)) (by first | rfl | (simp only [LL1, LL2, LL3, LL4, LL5, LL6, LL7, LL8, LL10, LL15, LL18, LL20, LL21, LL22, LL23, LL24, LL32, LL39, LL40, LL130, LL420, pk_mul, nI_add]; done) | (simp only [LL1, LL2, LL3, LL4, LL5, LL6, LL7, LL8, LL10, LL15, LL18, LL20, LL21, LL22, LL23, LL24, LL32, LL39, LL40, LL130, LL420, pk_mul, nI_add]; congr 1; omega)) (by omega) (Nat.le_of_ble_eq_true rfl) ?_
  show ab_Z m_Mo_needAt _ _ _ 13 [_, _, _] [_] _
  rw [hR.2.2.2.2.2.2.2.2.1 e f he hf]
  exact ab_rI ok_Mo_needAt rfl (⟨rfl, rfl⟩)
theorem t_Mo_worthAt (hR : RT s lv T nc nd nt) {e : Nat} (he : e < nd) : ab_T g_Mo_worthAt d (0, 0) [.ref 81, .int (nI e)] (HA fm X s t) (PI (T 19 e) (HA fm X s t)) := by
  have h2 := hR.2.1
  have h6 := hR.2.2.2.1.2
  refine ab_T_of (M := m_Mo_worthAt) rfl rfl (Nat.le_of_ble_eq_true rfl) ?_
  show ab_Z m_Mo_worthAt _ _ _ 0 [_, _] [] _
  refine ab_go ok_Mo_worthAt 8 rfl ?_
  show ab_Z m_Mo_worthAt _ _ _ 8 [_, _] [_, _] _
  rw [hR.1]
  refine ab_ia ok_Mo_worthAt rfl rfl (k := (6 * lv + e)) (by first | rfl | (simp only [LL1, LL2, LL3, LL4, LL5, LL6, LL7, LL8, LL10, LL15, LL18, LL20, LL21, LL22, LL23, LL24, LL32, LL39, LL40, LL130, LL420, pk_mul, nI_add]; done) | (simp only [LL1, LL2, LL3, LL4, LL5, LL6, LL7, LL8, LL10, LL15, LL18, LL20, LL21, LL22, LL23, LL24, LL32, LL39, LL40, LL130, LL420, pk_mul, nI_add]; congr 1; omega)) (by omega) (Nat.le_of_ble_eq_true rfl) ?_
  show ab_Z m_Mo_worthAt _ _ _ 9 [_, _] [_] _
  rw [hR.2.2.2.2.2.2.2.1 e he]
  exact ab_rI ok_Mo_worthAt rfl (⟨rfl, rfl⟩)
theorem t_Mo_ageNow (hR : RT s lv T nc nd nt) {c : Nat} (hc : c < nc) : ab_T g_Mo_ageNow d (0, 0) [.ref 81, .int (nI c)] (HA fm X s t) (PI (T 16 c + s 115 39) (HA fm X s t)) := by
  have h2 := hR.2.1
  have h5 := hR.2.2.1.2
  refine ab_T_of (M := m_Mo_ageNow) rfl rfl (Nat.le_of_ble_eq_true rfl) ?_
  show ab_Z m_Mo_ageNow _ _ _ 0 [_, _] [] _
  refine ab_go ok_Mo_ageNow 8 rfl ?_
  show ab_Z m_Mo_ageNow _ _ _ 8 [_, _] [_, _] _
  rw [hR.1]
  refine ab_ia ok_Mo_ageNow rfl rfl (k := (5 * lv + c)) (by first | rfl | (simp only [LL1, LL2, LL3, LL4, LL5, LL6, LL7, LL8, LL10, LL15, LL18, LL20, LL21, LL22, LL23, LL24, LL32, LL39, LL40, LL130, LL420, pk_mul, nI_add]; done) | (simp only [LL1, LL2, LL3, LL4, LL5, LL6, LL7, LL8, LL10, LL15, LL18, LL20, LL21, LL22, LL23, LL24, LL32, LL39, LL40, LL130, LL420, pk_mul, nI_add]; congr 1; omega)) (by omega) (Nat.le_of_ble_eq_true rfl) ?_
  show ab_Z m_Mo_ageNow _ _ _ 9 [_, _] [_] _
  rw [hR.2.2.2.2.2.1 c hc]
  refine ab_go ok_Mo_ageNow 3 rfl ?_
  show ab_Z m_Mo_ageNow _ _ _ 12 [_, _] [_, _, _] _
  refine ab_go ok_Mo_ageNow 1 rfl ?_
  show ab_Z m_Mo_ageNow _ _ _ 13 [_, _] [_, _] _
  refine ab_go ok_Mo_ageNow 1 rfl ?_
  show ab_Z m_Mo_ageNow _ _ _ 14 [_, _] [_] _
  exact ab_rI ok_Mo_ageNow rfl (⟨rfl, rfl⟩)
theorem t_Mo_sealedBits (hR : RT s lv T nc nd nt) (x : Int32) : ab_T g_Mo_sealedBits d (0, 0) [.ref 81, .int x] (HA fm X s t) (PI (nI (bitsN (fun k => decide (s 115 (15 + k) = x)) nd)) (HA fm X s t)) := by
  have h2 := hR.2.1
  have h6 := hR.2.2.2.1.2
  refine ab_T_of (M := m_Mo_sealedBits) rfl rfl (Nat.le_of_ble_eq_true rfl) ?_
  show ab_Z m_Mo_sealedBits _ _ _ 0 [_, _, _, _] [] _
  refine ab_go ok_Mo_sealedBits 4 rfl ?_
  show ab_Z m_Mo_sealedBits _ _ _ 4 [_, _, _, _] [] _
  refine lp_dn nd (fun k => ab_Z m_Mo_sealedBits d (0, 0) _ 4 [some (.ref 81), some (.int x), some (.int (nI (bitsN (fun k => decide (s 115 (15 + k) = x)) k))), some (.int (nI k))] [] (HA fm X s t)) ?_ ?_
  · refine ab_go ok_Mo_sealedBits 5 rfl ?_
    show ab_Z m_Mo_sealedBits _ _ _ 9 [_, _, _, _] [_, _, _] _
    rw [hR.1]
    refine ab_ia ok_Mo_sealedBits rfl rfl (k := lv) (by first | rfl | (simp only [LL1, LL2, LL3, LL4, LL5, LL6, LL7, LL8, LL10, LL15, LL18, LL20, LL21, LL22, LL23, LL24, LL32, LL39, LL40, LL130, LL420, pk_mul, nI_add]; done) | (simp only [LL1, LL2, LL3, LL4, LL5, LL6, LL7, LL8, LL10, LL15, LL18, LL20, LL21, LL22, LL23, LL24, LL32, LL39, LL40, LL130, LL420, pk_mul, nI_add]; congr 1; omega)) (by omega) (Nat.le_of_ble_eq_true rfl) ?_
    show ab_Z m_Mo_sealedBits _ _ _ 10 [_, _, _, _] [_, _] _
    rw [hR.2.2.2.1.1]
    refine ab_br ok_Mo_sealedBits rfl rfl ?_ ?_
    · intro h1
      show ab_Z m_Mo_sealedBits _ _ _ 27 [_, _, _, _] [] _
      refine ab_go ok_Mo_sealedBits 1 rfl ?_
      show ab_Z m_Mo_sealedBits _ _ _ 28 [_, _, _, _] [_] _
      exact ab_rI ok_Mo_sealedBits rfl (⟨rfl, rfl⟩)
    · intro h1
      show ab_Z m_Mo_sealedBits _ _ _ 11 [_, _, _, _] [] _
      exact absurd (lp_out nd) h1
  · intro k hk ih
    refine ab_go ok_Mo_sealedBits 5 rfl ?_
    show ab_Z m_Mo_sealedBits _ _ _ 9 [_, _, _, _] [_, _, _] _
    rw [hR.1]
    refine ab_ia ok_Mo_sealedBits rfl rfl (k := lv) (by first | rfl | (simp only [LL1, LL2, LL3, LL4, LL5, LL6, LL7, LL8, LL10, LL15, LL18, LL20, LL21, LL22, LL23, LL24, LL32, LL39, LL40, LL130, LL420, pk_mul, nI_add]; done) | (simp only [LL1, LL2, LL3, LL4, LL5, LL6, LL7, LL8, LL10, LL15, LL18, LL20, LL21, LL22, LL23, LL24, LL32, LL39, LL40, LL130, LL420, pk_mul, nI_add]; congr 1; omega)) (by omega) (Nat.le_of_ble_eq_true rfl) ?_
    show ab_Z m_Mo_sealedBits _ _ _ 10 [_, _, _, _] [_, _] _
    rw [hR.2.2.2.1.1]
    refine ab_br ok_Mo_sealedBits rfl rfl ?_ ?_
    · intro h1
      show ab_Z m_Mo_sealedBits _ _ _ 27 [_, _, _, _] [] _
      exact absurd h1 (lp_in (by omega) hk)
    · intro h1
      show ab_Z m_Mo_sealedBits _ _ _ 11 [_, _, _, _] [] _
      refine ab_go ok_Mo_sealedBits 5 rfl ?_
      show ab_Z m_Mo_sealedBits _ _ _ 16 [_, _, _, _] [_, _] _
      refine ab_ia ok_Mo_sealedBits rfl rfl (k := (15 + k)) (by first | rfl | (simp only [LL1, LL2, LL3, LL4, LL5, LL6, LL7, LL8, LL10, LL15, LL18, LL20, LL21, LL22, LL23, LL24, LL32, LL39, LL40, LL130, LL420, pk_mul, nI_add]; done) | (simp only [LL1, LL2, LL3, LL4, LL5, LL6, LL7, LL8, LL10, LL15, LL18, LL20, LL21, LL22, LL23, LL24, LL32, LL39, LL40, LL130, LL420, pk_mul, nI_add]; congr 1; omega)) (by omega) (Nat.le_of_ble_eq_true rfl) ?_
      show ab_Z m_Mo_sealedBits _ _ _ 17 [_, _, _, _] [_] _
      refine ab_go ok_Mo_sealedBits 1 rfl ?_
      show ab_Z m_Mo_sealedBits _ _ _ 18 [_, _, _, _] [_, _] _
      refine ab_br ok_Mo_sealedBits rfl rfl ?_ ?_
      · intro hx
        show ab_Z m_Mo_sealedBits _ _ _ 19 [_, _, _, _] [] _
        refine ab_go ok_Mo_sealedBits 8 rfl ?_
        show ab_Z m_Mo_sealedBits _ _ _ 4 [_, _, _, _] [] _
        rw [bitsN_or _ (by omega) (decide_eq_true hx), ← nI_succ]
        exact ih
      · intro hx
        show ab_Z m_Mo_sealedBits _ _ _ 25 [_, _, _, _] [] _
        refine ab_go ok_Mo_sealedBits 2 rfl ?_
        show ab_Z m_Mo_sealedBits _ _ _ 4 [_, _, _, _] [] _
        rw [bitsN_no _ (decide_eq_false hx), nI_succ] at ih
        exact ih
theorem t_Mo_printSum {e : Nat} (he : e < 6) : ab_T g_Mo_printSum d (0, 0) [.ref 81, .int (nI e)] (HA fm X s t) (PI (s 115 (21 + 3 * e) + s 115 (21 + 3 * e + 1) + s 115 (21 + 3 * e + 2)) (HA fm X s t)) := by
  refine ab_T_of (M := m_Mo_printSum) rfl rfl (Nat.le_of_ble_eq_true rfl) ?_
  show ab_Z m_Mo_printSum _ _ _ 0 [_, _] [] _
  refine ab_go ok_Mo_printSum 7 rfl ?_
  show ab_Z m_Mo_printSum _ _ _ 7 [_, _] [_, _] _
  refine ab_ia ok_Mo_printSum rfl rfl (k := (21 + 3 * e)) (by first | rfl | (simp only [LL1, LL2, LL3, LL4, LL5, LL6, LL7, LL8, LL10, LL15, LL18, LL20, LL21, LL22, LL23, LL24, LL32, LL39, LL40, LL130, LL420, pk_mul, nI_add]; done) | (simp only [LL1, LL2, LL3, LL4, LL5, LL6, LL7, LL8, LL10, LL15, LL18, LL20, LL21, LL22, LL23, LL24, LL32, LL39, LL40, LL130, LL420, pk_mul, nI_add]; congr 1; omega)) (by omega) (Nat.le_of_ble_eq_true rfl) ?_
  show ab_Z m_Mo_printSum _ _ _ 8 [_, _] [_] _
  refine ab_go ok_Mo_printSum 7 rfl ?_
  show ab_Z m_Mo_printSum _ _ _ 15 [_, _] [_, _, _] _
  refine ab_ia ok_Mo_printSum rfl rfl (k := (21 + 3 * e + 1)) (by first | rfl | (simp only [LL1, LL2, LL3, LL4, LL5, LL6, LL7, LL8, LL10, LL15, LL18, LL20, LL21, LL22, LL23, LL24, LL32, LL39, LL40, LL130, LL420, pk_mul, nI_add]; done) | (simp only [LL1, LL2, LL3, LL4, LL5, LL6, LL7, LL8, LL10, LL15, LL18, LL20, LL21, LL22, LL23, LL24, LL32, LL39, LL40, LL130, LL420, pk_mul, nI_add]; congr 1; omega)) (by omega) (Nat.le_of_ble_eq_true rfl) ?_
  show ab_Z m_Mo_printSum _ _ _ 16 [_, _] [_, _] _
  refine ab_go ok_Mo_printSum 8 rfl ?_
  show ab_Z m_Mo_printSum _ _ _ 24 [_, _] [_, _, _] _
  refine ab_ia ok_Mo_printSum rfl rfl (k := (21 + 3 * e + 2)) (by first | rfl | (simp only [LL1, LL2, LL3, LL4, LL5, LL6, LL7, LL8, LL10, LL15, LL18, LL20, LL21, LL22, LL23, LL24, LL32, LL39, LL40, LL130, LL420, pk_mul, nI_add]; done) | (simp only [LL1, LL2, LL3, LL4, LL5, LL6, LL7, LL8, LL10, LL15, LL18, LL20, LL21, LL22, LL23, LL24, LL32, LL39, LL40, LL130, LL420, pk_mul, nI_add]; congr 1; omega)) (by omega) (Nat.le_of_ble_eq_true rfl) ?_
  show ab_Z m_Mo_printSum _ _ _ 25 [_, _] [_, _] _
  refine ab_go ok_Mo_printSum 1 rfl ?_
  show ab_Z m_Mo_printSum _ _ _ 26 [_, _] [_] _
  exact ab_rI ok_Mo_printSum rfl (⟨rfl, rfl⟩)
theorem t_Mo_looks : ab_T g_Mo_looks d (0, 0) [.ref 81] (HA fm X s t) (PV (HA fm X (lk0 s) t)) := by
  refine ab_T_of (M := m_Mo_looks) rfl rfl (Nat.le_of_ble_eq_true rfl) ?_
  show ab_Z m_Mo_looks _ _ _ 0 [_, _] [] _
  refine ab_go ok_Mo_looks 2 rfl ?_
  show ab_Z m_Mo_looks _ _ _ 2 [_, _] [] _
  have e0 : s = ab_ro s 112 (fun j => if j < 0 then 0 else s 112 j) := by
    rw [show (fun j => if j < 0 then 0 else s 112 j) = s 112 from funext fun j => if_neg (by omega), ro_id]
  refine Eq.mpr (congrArg (fun z => ab_Z m_Mo_looks d (0, 0) (PV (HA fm X (lk0 s) t)) 2 [some (.ref 81), some (.int 0)] [] (HA fm X z t)) e0) ?_
  refine lp_dn 9 (fun k => ab_Z m_Mo_looks d (0, 0) (PV (HA fm X (lk0 s) t)) 2 [some (.ref 81), some (.int (nI k))] [] (HA fm X (ab_ro s 112 (fun j => if j < k then 0 else s 112 j)) t)) ?_ ?_
  · refine ab_go ok_Mo_looks 2 rfl ?_
    show ab_Z m_Mo_looks _ _ _ 4 [_, _] [_, _] _
    refine ab_go ok_Mo_looks 1 rfl ?_
    show ab_Z m_Mo_looks _ _ _ 12 [_, _] [] _
    refine ab_go ok_Mo_looks 6 rfl ?_
    show ab_Z m_Mo_looks _ _ _ 18 [_, _] [_, _, _, _] _
    refine ab_go ok_Mo_looks 1 rfl ?_
    show ab_Z m_Mo_looks _ _ _ 19 [_, _] [_, _, _] _
    refine ab_go ok_Mo_looks 1 rfl ?_
    show ab_Z m_Mo_looks _ _ _ 20 [_, _] [] _
    exact ab_rV ok_Mo_looks rfl (⟨rfl, rfl⟩)
  · intro k hk ih
    refine ab_go ok_Mo_looks 2 rfl ?_
    show ab_Z m_Mo_looks _ _ _ 4 [_, _] [_, _] _
    refine ab_br ok_Mo_looks rfl rfl ?_ ?_
    · intro h1
      show ab_Z m_Mo_looks _ _ _ 12 [_, _] [] _
      exact absurd h1 (lp_in (N := 9) (by decide) hk)
    · intro h1
      show ab_Z m_Mo_looks _ _ _ 5 [_, _] [] _
      refine ab_go ok_Mo_looks 4 rfl ?_
      show ab_Z m_Mo_looks _ _ _ 9 [_, _] [_, _, _] _
      refine ab_is ok_Mo_looks rfl rfl (k := k) (by first | rfl | (simp only [LL1, LL2, LL3, LL4, LL5, LL6, LL7, LL8, LL10, LL15, LL18, LL20, LL21, LL22, LL23, LL24, LL32, LL39, LL40, LL130, LL420, pk_mul, nI_add]; done) | (simp only [LL1, LL2, LL3, LL4, LL5, LL6, LL7, LL8, LL10, LL15, LL18, LL20, LL21, LL22, LL23, LL24, LL32, LL39, LL40, LL130, LL420, pk_mul, nI_add]; congr 1; omega)) (by omega) (Nat.le_of_ble_eq_true rfl) ?_
      show ab_Z m_Mo_looks _ _ _ 10 [_, _] [] _
      rw [ro_up]
      refine ab_go ok_Mo_looks 2 rfl ?_
      show ab_Z m_Mo_looks _ _ _ 2 [_, _] [] _
      rw [show upd (fun j => if j < k then 0 else s 112 j) k 0 = (fun j => if j < k + 1 then 0 else s 112 j) from by
        funext j
        unfold upd
        by_cases h2 : j = k
        · rw [if_pos h2, if_pos (by omega)]
        · rw [if_neg h2]
          dsimp only
          by_cases h3 : j < k
          · rw [if_pos h3, if_pos (by omega)]
          · rw [if_neg h3, if_neg (by omega)], ← nI_succ]
      exact ih
theorem t_Mo_looksBy (hR : RT s lv T nc nd nt) {c : Nat} (hc : c < nc) : ab_T g_Mo_looksBy (d + 1) (0, 0) [.ref 81, .int (nI c)] (HA fm X s t) (PV (HA fm X (lk1 s T nd c) t)) := by
  have h6 := hR.2.2.2.1.2
  have k0 := lk0_k s
  refine ab_T_of (M := m_Mo_looksBy) rfl rfl (Nat.le_of_ble_eq_true rfl) ?_
  show ab_Z m_Mo_looksBy _ _ _ 0 [_, _] [] _
  refine ab_go ok_Mo_looksBy 1 rfl ?_
  show ab_Z m_Mo_looksBy _ _ _ 1 [_, _] [_] _
  refine ab_cl ok_Mo_looksBy rfl [_] [] rfl ⟨_, _, rfl, rfl, Or.inl ⟨_, _, rfl, rfl⟩⟩ (Nat.le_of_ble_eq_true rfl) (t_Mo_looks d fm X s t) ?_
  rintro _ _ ⟨rfl, rfl⟩
  show ab_Z m_Mo_looksBy _ _ _ 2 [_, _] [] _
  refine ab_go ok_Mo_looksBy 5 rfl ?_
  show ab_Z m_Mo_looksBy _ _ _ 7 [_, _] [_, _, _, _] _
  refine ab_cl ok_Mo_looksBy rfl [_, _] [_, _] rfl ⟨_, _, rfl, rfl, Or.inl ⟨_, _, rfl, rfl⟩⟩ (Nat.le_of_ble_eq_true rfl) (t_Mo_ageNow d fm X _ T t (hR.k k0.m14) hc) ?_
  rintro _ _ ⟨rfl, rfl⟩
  show ab_Z m_Mo_looksBy _ _ _ 8 [_, _] [_, _, _] _
  refine ab_go ok_Mo_looksBy 1 rfl ?_
  show ab_Z m_Mo_looksBy _ _ _ 9 [_, _] [] _
  refine ab_go ok_Mo_looksBy 5 rfl ?_
  show ab_Z m_Mo_looksBy _ _ _ 14 [_, _] [_, _, _, _] _
  refine ab_cl ok_Mo_looksBy rfl [_, _] [_, _] rfl ⟨_, _, rfl, rfl, Or.inl ⟨_, _, rfl, rfl⟩⟩ (Nat.le_of_ble_eq_true rfl) (t_Mo_sealedBits d fm X _ T t (hR.k (Kr.up rfl k0).m14) (nI c)) ?_
  rintro _ _ ⟨rfl, rfl⟩
  show ab_Z m_Mo_looksBy _ _ _ 15 [_, _] [_, _, _] _
  refine ab_cl ok_Mo_looksBy rfl [_] [_, _] rfl rfl (Nat.le_of_ble_eq_true rfl) (t_Mo_bits d _ (Nat.lt_of_lt_of_le (bitsN_lt _ nd) (Nat.pow_le_pow_right (by decide) h6 : 2 ^ nd ≤ 2 ^ 6))) ?_
  rintro _ _ ⟨rfl, rfl⟩
  show ab_Z m_Mo_looksBy _ _ _ 16 [_, _] [_, _, _] _
  refine ab_go ok_Mo_looksBy 1 rfl ?_
  show ab_Z m_Mo_looksBy _ _ _ 17 [_, _] [] _
  refine ab_go ok_Mo_looksBy 4 rfl ?_
  show ab_Z m_Mo_looksBy _ _ _ 21 [_, _] [_, _, _] _
  refine ab_go ok_Mo_looksBy 1 rfl ?_
  show ab_Z m_Mo_looksBy _ _ _ 22 [_, _] [] _
  exact ab_rV ok_Mo_looksBy rfl (⟨rfl, rfl⟩)
theorem t_Mo_takesOf (hC : RC s lv T nc nd nt PT PG PB PF) {c e f : Nat} (hc : c < nc) (he : e < nd) (hf : f < 3) : ab_T g_Mo_takesOf (d + 2) (0, 0) [.ref 81, .int (nI c), .int (nI e), .int (nI f)] (HA fm X s t) (PR w1 (TV (vR T nc nd (s 115)) PT nd c e f) fm X s t) := by
  have hR := hC.1
  have h5 := hR.2.2.1.2
  have h6 := hR.2.2.2.1.2
  have k1 := lk1_k s T nd c
  refine ab_T_of (M := m_Mo_takesOf) rfl rfl (Nat.le_of_ble_eq_true rfl) ?_
  show ab_Z m_Mo_takesOf _ _ _ 0 [_, _, _, _] [] _
  refine ab_go ok_Mo_takesOf 2 rfl ?_
  show ab_Z m_Mo_takesOf _ _ _ 2 [_, _, _, _] [_, _] _
  refine ab_cl ok_Mo_takesOf rfl [_, _] [] rfl ⟨_, _, rfl, rfl, Or.inl ⟨_, _, rfl, rfl⟩⟩ (Nat.le_of_ble_eq_true rfl) (t_Mo_looksBy d fm X s T t hR hc) ?_
  rintro _ _ ⟨rfl, rfl⟩
  show ab_Z m_Mo_takesOf _ _ _ 3 [_, _, _, _] [] _
  refine ab_go ok_Mo_takesOf 6 rfl ?_
  show ab_Z m_Mo_takesOf _ _ _ 9 [_, _, _, _] [_, _, _, _, _] _
  refine ab_cl ok_Mo_takesOf rfl [_, _, _] [_, _] rfl ⟨_, _, rfl, rfl, Or.inl ⟨_, _, rfl, rfl⟩⟩ (Nat.le_of_ble_eq_true rfl) (t_Mo_needAt (d + 1) fm X _ T t (hR.k k1.m14) he hf) ?_
  rintro _ _ ⟨rfl, rfl⟩
  show ab_Z m_Mo_takesOf _ _ _ 10 [_, _, _, _] [_, _, _] _
  refine ab_go ok_Mo_takesOf 1 rfl ?_
  show ab_Z m_Mo_takesOf _ _ _ 11 [_, _, _, _] [] _
  refine ab_go ok_Mo_takesOf 10 rfl ?_
  show ab_Z m_Mo_takesOf _ _ _ 21 [_, _, _, _] [_, _, _, _] _
  refine ab_ia ok_Mo_takesOf rfl rfl (k := (3 * c + f)) (by first | rfl | (simp only [LL1, LL2, LL3, LL4, LL5, LL6, LL7, LL8, LL10, LL15, LL18, LL20, LL21, LL22, LL23, LL24, LL32, LL39, LL40, LL130, LL420, pk_mul, nI_add]; done) | (simp only [LL1, LL2, LL3, LL4, LL5, LL6, LL7, LL8, LL10, LL15, LL18, LL20, LL21, LL22, LL23, LL24, LL32, LL39, LL40, LL130, LL420, pk_mul, nI_add]; congr 1; omega)) (by omega) (Nat.le_of_ble_eq_true rfl) ?_
  show ab_Z m_Mo_takesOf _ _ _ 22 [_, _, _, _] [_, _, _] _
  refine ab_go ok_Mo_takesOf 1 rfl ?_
  show ab_Z m_Mo_takesOf _ _ _ 23 [_, _, _, _] [] _
  refine ab_go ok_Mo_takesOf 5 rfl ?_
  show ab_Z m_Mo_takesOf _ _ _ 28 [_, _, _, _] [_, _, _, _] _
  refine ab_cl ok_Mo_takesOf rfl [_, _] [_, _] rfl ⟨_, _, rfl, rfl, Or.inl ⟨_, _, rfl, rfl⟩⟩ (Nat.le_of_ble_eq_true rfl) (t_Mo_worthAt (d + 1) fm X _ T t (hR.k (Kr.up rfl (Kr.up rfl k1)).m14) he) ?_
  rintro _ _ ⟨rfl, rfl⟩
  show ab_Z m_Mo_takesOf _ _ _ 29 [_, _, _, _] [_, _, _] _
  refine ab_go ok_Mo_takesOf 1 rfl ?_
  show ab_Z m_Mo_takesOf _ _ _ 30 [_, _, _, _] [] _
  refine ab_go ok_Mo_takesOf 4 rfl ?_
  show ab_Z m_Mo_takesOf _ _ _ 34 [_, _, _, _] [_, _, _] _
  refine ab_go ok_Mo_takesOf 1 rfl ?_
  show ab_Z m_Mo_takesOf _ _ _ 35 [_, _, _, _] [] _
  refine ab_go ok_Mo_takesOf 5 rfl ?_
  show ab_Z m_Mo_takesOf _ _ _ 40 [_, _, _, _] [_, _, _, _] _
  refine ab_go ok_Mo_takesOf 1 rfl ?_
  show ab_Z m_Mo_takesOf _ _ _ 41 [_, _, _, _] [_, _, _] _
  refine ab_cl ok_Mo_takesOf rfl [_, _, _] [] rfl ⟨_, _, rfl, rfl, Or.inl ⟨_, _, rfl, rfl⟩⟩ (Nat.le_of_ble_eq_true rfl) (t_Mo_lawTells d fm X _ t (lv := lv) (q := 0) (hR.k (Kr.up rfl (Kr.up rfl (Kr.up rfl (Kr.up rfl k1)))).m14).1 hR.2.1 (by decide) (hC.2.1.k (Kr.up rfl (Kr.up rfl (Kr.up rfl (Kr.up rfl k1)))).m14) rfl) ?_
  rintro _ _ ⟨rfl, s6, rfl, k6⟩
  show ab_Z m_Mo_takesOf _ _ _ 42 [_, _, _, _] [_] _
  refine ab_go ok_Mo_takesOf 2 rfl ?_
  show ab_Z m_Mo_takesOf _ _ _ 44 [_, _, _, _] [_, _, _] _
  refine ab_cl ok_Mo_takesOf rfl [_, _, _] [] rfl rfl (Nat.le_of_ble_eq_true rfl) (t_Mo_within (d + 1) _ _ _ _) ?_
  rintro _ _ ⟨rfl, rfl⟩
  show ab_Z m_Mo_takesOf _ _ _ 45 [_, _, _, _] [_] _
  refine ab_rI ok_Mo_takesOf rfl (⟨?_, _, rfl, (Kr.up rfl (Kr.up rfl (Kr.up rfl (Kr.up rfl k1)))).tr k6.m01⟩)
  rw [held_w _ _ (by decide)]
  show some (Value.int (heldF _ 9)) = some (Value.int (heldF _ 9))
  rw [lawSem_cg (fun j hj => ?_) PT (hC.2.1.ok plT0_ok)]
  match j, hj with
  | 0, _ => rfl
  | 1, _ => exact (vR_l (T := T) (r := s 115) hc hf).symm
  | 2, _ => exact congrArg (T 16 c + ·) (vR_y (T := T) (r := s 115) h5 h6).symm
  | 3, _ => rfl
  | 4, _ => rfl
  | 5, _ => exact (vR_y (T := T) (r := s 115) h5 h6).symm
  | 6, _ => exact (nsV_v (T := T) (r := s 115) h5 h6 c).symm
  | 7, _ => rfl
  | 8, _ => rfl
theorem t_Mo_growsOf (hC : RC s lv T nc nd nt PT PG PB PF) {c f : Nat} (hc : c < nc) (hf : f < 3) : ab_T g_Mo_growsOf (d + 2) (0, 0) [.ref 81, .int (nI c), .int (nI f)] (HA fm X s t) (PR w1 (grF PG (s 115 (3 * c + f)) (T 16 c + s 115 39) (nI f) (s 115 39) (nsV (vR T nc nd (s 115)) nd c) (nI c)) fm X s t) := by
  have hR := hC.1
  have h5 := hR.2.2.1.2
  have h6 := hR.2.2.2.1.2
  have k1 := lk1_k s T nd c
  refine ab_T_of (M := m_Mo_growsOf) rfl rfl (Nat.le_of_ble_eq_true rfl) ?_
  show ab_Z m_Mo_growsOf _ _ _ 0 [_, _, _] [] _
  refine ab_go ok_Mo_growsOf 2 rfl ?_
  show ab_Z m_Mo_growsOf _ _ _ 2 [_, _, _] [_, _] _
  refine ab_cl ok_Mo_growsOf rfl [_, _] [] rfl ⟨_, _, rfl, rfl, Or.inl ⟨_, _, rfl, rfl⟩⟩ (Nat.le_of_ble_eq_true rfl) (t_Mo_looksBy d fm X s T t hR hc) ?_
  rintro _ _ ⟨rfl, rfl⟩
  show ab_Z m_Mo_growsOf _ _ _ 3 [_, _, _] [] _
  refine ab_go ok_Mo_growsOf 10 rfl ?_
  show ab_Z m_Mo_growsOf _ _ _ 13 [_, _, _] [_, _, _, _] _
  refine ab_ia ok_Mo_growsOf rfl rfl (k := (3 * c + f)) (by first | rfl | (simp only [LL1, LL2, LL3, LL4, LL5, LL6, LL7, LL8, LL10, LL15, LL18, LL20, LL21, LL22, LL23, LL24, LL32, LL39, LL40, LL130, LL420, pk_mul, nI_add]; done) | (simp only [LL1, LL2, LL3, LL4, LL5, LL6, LL7, LL8, LL10, LL15, LL18, LL20, LL21, LL22, LL23, LL24, LL32, LL39, LL40, LL130, LL420, pk_mul, nI_add]; congr 1; omega)) (by omega) (Nat.le_of_ble_eq_true rfl) ?_
  show ab_Z m_Mo_growsOf _ _ _ 14 [_, _, _] [_, _, _] _
  refine ab_go ok_Mo_growsOf 1 rfl ?_
  show ab_Z m_Mo_growsOf _ _ _ 15 [_, _, _] [] _
  refine ab_go ok_Mo_growsOf 4 rfl ?_
  show ab_Z m_Mo_growsOf _ _ _ 19 [_, _, _] [_, _, _] _
  refine ab_go ok_Mo_growsOf 1 rfl ?_
  show ab_Z m_Mo_growsOf _ _ _ 20 [_, _, _] [] _
  refine ab_go ok_Mo_growsOf 3 rfl ?_
  show ab_Z m_Mo_growsOf _ _ _ 23 [_, _, _] [_, _, _] _
  refine ab_cl ok_Mo_growsOf rfl [_, _, _] [] rfl ⟨_, _, rfl, rfl, Or.inl ⟨_, _, rfl, rfl⟩⟩ (Nat.le_of_ble_eq_true rfl) (t_Mo_lawTells d fm X _ t (lv := lv) (q := 1) (hR.k (Kr.up rfl (Kr.up rfl k1)).m14).1 hR.2.1 (by decide) (hC.2.2.1.k (Kr.up rfl (Kr.up rfl k1)).m14) rfl) ?_
  rintro _ _ ⟨rfl, s6, rfl, k6⟩
  show ab_Z m_Mo_growsOf _ _ _ 24 [_, _, _] [_] _
  refine ab_go ok_Mo_growsOf 2 rfl ?_
  show ab_Z m_Mo_growsOf _ _ _ 26 [_, _, _] [_, _, _] _
  refine ab_cl ok_Mo_growsOf rfl [_, _, _] [] rfl rfl (Nat.le_of_ble_eq_true rfl) (t_Mo_within (d + 1) _ _ _ _) ?_
  rintro _ _ ⟨rfl, rfl⟩
  show ab_Z m_Mo_growsOf _ _ _ 27 [_, _, _] [_] _
  refine ab_rI ok_Mo_growsOf rfl (⟨?_, _, rfl, (Kr.up rfl (Kr.up rfl k1)).tr k6.m01⟩)
  rw [held_w _ _ (by decide)]
  show some (Value.int (heldF _ 9)) = some (Value.int (heldF _ 9))
  rw [lawSem_cg (fun j hj => ?_) PG (hC.2.2.1.ok plG0_ok)]
  match j, hj with
  | 0, _ => rfl
  | 1, _ => rfl
  | 2, _ => rfl
  | 3, _ => rfl
  | 4, _ => rfl
  | 5, _ => rfl
  | 6, _ => exact (nsV_v (T := T) (r := s 115) h5 h6 c).symm
  | 7, _ => rfl
  | 8, _ => rfl
theorem t_Mo_fadesOf (hC : RC s lv T nc nd nt PT PG PB PF) {e f : Nat} (he : e < nd) (hf : f < 3) : ab_T g_Mo_fadesOf (d + 2) (0, 0) [.ref 81, .int (nI e), .int (nI f)] (HA fm X s t) (PR w1 (fdF PF (T 20 (3 * e + f)) (T 19 e) (nI f) (s 115 39) (nI e) (s 115 (21 + 3 * e + f))) fm X s t) := by
  have hR := hC.1
  have h5 := hR.2.2.1.2
  have h6 := hR.2.2.2.1.2
  have k0 := lk0_k s
  refine ab_T_of (M := m_Mo_fadesOf) rfl rfl (Nat.le_of_ble_eq_true rfl) ?_
  show ab_Z m_Mo_fadesOf _ _ _ 0 [_, _, _] [] _
  refine ab_go ok_Mo_fadesOf 1 rfl ?_
  show ab_Z m_Mo_fadesOf _ _ _ 1 [_, _, _] [_] _
  refine ab_cl ok_Mo_fadesOf rfl [_] [] rfl ⟨_, _, rfl, rfl, Or.inl ⟨_, _, rfl, rfl⟩⟩ (Nat.le_of_ble_eq_true rfl) (t_Mo_looks (d + 1) fm X s t) ?_
  rintro _ _ ⟨rfl, rfl⟩
  show ab_Z m_Mo_fadesOf _ _ _ 2 [_, _, _] [] _
  refine ab_go ok_Mo_fadesOf 6 rfl ?_
  show ab_Z m_Mo_fadesOf _ _ _ 8 [_, _, _] [_, _, _, _, _] _
  refine ab_cl ok_Mo_fadesOf rfl [_, _, _] [_, _] rfl ⟨_, _, rfl, rfl, Or.inl ⟨_, _, rfl, rfl⟩⟩ (Nat.le_of_ble_eq_true rfl) (t_Mo_needAt (d + 1) fm X _ T t (hR.k k0.m14) he hf) ?_
  rintro _ _ ⟨rfl, rfl⟩
  show ab_Z m_Mo_fadesOf _ _ _ 9 [_, _, _] [_, _, _] _
  refine ab_go ok_Mo_fadesOf 1 rfl ?_
  show ab_Z m_Mo_fadesOf _ _ _ 10 [_, _, _] [] _
  refine ab_go ok_Mo_fadesOf 5 rfl ?_
  show ab_Z m_Mo_fadesOf _ _ _ 15 [_, _, _] [_, _, _, _] _
  refine ab_cl ok_Mo_fadesOf rfl [_, _] [_, _] rfl ⟨_, _, rfl, rfl, Or.inl ⟨_, _, rfl, rfl⟩⟩ (Nat.le_of_ble_eq_true rfl) (t_Mo_worthAt (d + 1) fm X _ T t (hR.k (Kr.up rfl k0).m14) he) ?_
  rintro _ _ ⟨rfl, rfl⟩
  show ab_Z m_Mo_fadesOf _ _ _ 16 [_, _, _] [_, _, _] _
  refine ab_go ok_Mo_fadesOf 1 rfl ?_
  show ab_Z m_Mo_fadesOf _ _ _ 17 [_, _, _] [] _
  refine ab_go ok_Mo_fadesOf 4 rfl ?_
  show ab_Z m_Mo_fadesOf _ _ _ 21 [_, _, _] [_, _, _] _
  refine ab_go ok_Mo_fadesOf 1 rfl ?_
  show ab_Z m_Mo_fadesOf _ _ _ 22 [_, _, _] [] _
  refine ab_go ok_Mo_fadesOf 4 rfl ?_
  show ab_Z m_Mo_fadesOf _ _ _ 26 [_, _, _] [_, _, _] _
  refine ab_go ok_Mo_fadesOf 1 rfl ?_
  show ab_Z m_Mo_fadesOf _ _ _ 27 [_, _, _] [] _
  refine ab_go ok_Mo_fadesOf 12 rfl ?_
  show ab_Z m_Mo_fadesOf _ _ _ 39 [_, _, _] [_, _, _, _] _
  refine ab_ia ok_Mo_fadesOf rfl rfl (k := (21 + 3 * e + f)) (by first | rfl | (simp only [LL1, LL2, LL3, LL4, LL5, LL6, LL7, LL8, LL10, LL15, LL18, LL20, LL21, LL22, LL23, LL24, LL32, LL39, LL40, LL130, LL420, pk_mul, nI_add]; done) | (simp only [LL1, LL2, LL3, LL4, LL5, LL6, LL7, LL8, LL10, LL15, LL18, LL20, LL21, LL22, LL23, LL24, LL32, LL39, LL40, LL130, LL420, pk_mul, nI_add]; congr 1; omega)) (by omega) (Nat.le_of_ble_eq_true rfl) ?_
  show ab_Z m_Mo_fadesOf _ _ _ 40 [_, _, _] [_, _, _] _
  refine ab_go ok_Mo_fadesOf 1 rfl ?_
  show ab_Z m_Mo_fadesOf _ _ _ 41 [_, _, _] [] _
  refine ab_go ok_Mo_fadesOf 3 rfl ?_
  show ab_Z m_Mo_fadesOf _ _ _ 44 [_, _, _] [_, _, _] _
  refine ab_cl ok_Mo_fadesOf rfl [_, _, _] [] rfl ⟨_, _, rfl, rfl, Or.inl ⟨_, _, rfl, rfl⟩⟩ (Nat.le_of_ble_eq_true rfl) (t_Mo_lawTells d fm X _ t (lv := lv) (q := 3) (hR.k (Kr.up rfl (Kr.up rfl (Kr.up rfl (Kr.up rfl (Kr.up rfl k0))))).m14).1 hR.2.1 (by decide) (hC.2.2.2.2.k (Kr.up rfl (Kr.up rfl (Kr.up rfl (Kr.up rfl (Kr.up rfl k0))))).m14) rfl) ?_
  rintro _ _ ⟨rfl, s6, rfl, k6⟩
  show ab_Z m_Mo_fadesOf _ _ _ 45 [_, _, _] [_] _
  refine ab_go ok_Mo_fadesOf 2 rfl ?_
  show ab_Z m_Mo_fadesOf _ _ _ 47 [_, _, _] [_, _, _] _
  refine ab_cl ok_Mo_fadesOf rfl [_, _, _] [] rfl rfl (Nat.le_of_ble_eq_true rfl) (t_Mo_within (d + 1) _ _ _ _) ?_
  rintro _ _ ⟨rfl, rfl⟩
  show ab_Z m_Mo_fadesOf _ _ _ 48 [_, _, _] [_] _
  refine ab_rI ok_Mo_fadesOf rfl (⟨?_, _, rfl, (Kr.up rfl (Kr.up rfl (Kr.up rfl (Kr.up rfl (Kr.up rfl k0))))).tr k6.m01⟩)
  rw [held_w _ _ (by decide)]
  show some (Value.int (heldF _ 9)) = some (Value.int (heldF _ 9))
  rw [lawSem_cg (fun j hj => ?_) PF (hC.2.2.2.2.ok plG0_ok)]
  match j, hj with
  | 0, _ => rfl
  | 1, _ => rfl
  | 2, _ => rfl
  | 3, _ => rfl
  | 4, _ => rfl
  | 5, _ => rfl
  | 6, _ => rfl
  | 7, _ => rfl
  | 8, _ => rfl
theorem t_Mo_bindsOf (hC : RC s lv T nc nd nt PT PG PB PF) (hI : SI (vR T nc nd (s 115)) nc nd nt) {e : Nat} (he : e < nd) : ab_T g_Mo_bindsOf (d + 2) (0, 0) [.ref 81, .int (nI e)] (HA fm X s t) (PR w1 (bdV (vR T nc nd (s 115)) PB PF nd e 0) fm X s t) := by
  have hR := hC.1
  have h5 := hR.2.2.1.2
  have h6 := hR.2.2.2.1.2
  have hsl := fun hn => hI.sl he hn
  unfold bdV
  rw [vR_s h5 h6 he] at hsl ⊢
  refine ab_T_of (M := m_Mo_bindsOf) rfl rfl (Nat.le_of_ble_eq_true rfl) ?_
  show ab_Z m_Mo_bindsOf _ _ _ 0 [_, _, _] [] _
  refine ab_go ok_Mo_bindsOf 5 rfl ?_
  show ab_Z m_Mo_bindsOf _ _ _ 5 [_, _, _] [_, _] _
  refine ab_ia ok_Mo_bindsOf rfl rfl (k := (15 + e)) (by first | rfl | (simp only [LL1, LL2, LL3, LL4, LL5, LL6, LL7, LL8, LL10, LL15, LL18, LL20, LL21, LL22, LL23, LL24, LL32, LL39, LL40, LL130, LL420, pk_mul, nI_add]; done) | (simp only [LL1, LL2, LL3, LL4, LL5, LL6, LL7, LL8, LL10, LL15, LL18, LL20, LL21, LL22, LL23, LL24, LL32, LL39, LL40, LL130, LL420, pk_mul, nI_add]; congr 1; omega)) (by omega) (Nat.le_of_ble_eq_true rfl) ?_
  show ab_Z m_Mo_bindsOf _ _ _ 6 [_, _, _] [_] _
  refine ab_go ok_Mo_bindsOf 2 rfl ?_
  show ab_Z m_Mo_bindsOf _ _ _ 8 [_, _, _] [_] _
  refine ab_br ok_Mo_bindsOf rfl rfl ?_ ?_
  · intro h1
    show ab_Z m_Mo_bindsOf _ _ _ 11 [_, _, _] [] _
    have hn : ¬ s 115 (15 + e) < 0 := fun z => by have := i_lt z; have := i_le h1; omega
    obtain ⟨c, hc, hsc⟩ := hsl hn
    rw [if_neg hn, hsc, nI_c (by omega)]
    have k1 := lk1_k s T nd c
    refine ab_go ok_Mo_bindsOf 2 rfl ?_
    show ab_Z m_Mo_bindsOf _ _ _ 13 [_, _, _] [_, _] _
    refine ab_cl ok_Mo_bindsOf rfl [_, _] [] rfl ⟨_, _, rfl, rfl, Or.inl ⟨_, _, rfl, rfl⟩⟩ (Nat.le_of_ble_eq_true rfl) (t_Mo_looksBy d fm X s T t hR hc) ?_
    rintro _ _ ⟨rfl, rfl⟩
    show ab_Z m_Mo_bindsOf _ _ _ 14 [_, _, _] [] _
    refine ab_go ok_Mo_bindsOf 5 rfl ?_
    show ab_Z m_Mo_bindsOf _ _ _ 19 [_, _, _] [_, _, _, _] _
    refine ab_cl ok_Mo_bindsOf rfl [_, _] [_, _] rfl ⟨_, _, rfl, rfl, Or.inl ⟨_, _, rfl, rfl⟩⟩ (Nat.le_of_ble_eq_true rfl) (t_Mo_worthAt (d + 1) fm X _ T t (hR.k k1.m14) he) ?_
    rintro _ _ ⟨rfl, rfl⟩
    show ab_Z m_Mo_bindsOf _ _ _ 20 [_, _, _] [_, _, _] _
    refine ab_go ok_Mo_bindsOf 1 rfl ?_
    show ab_Z m_Mo_bindsOf _ _ _ 21 [_, _, _] [] _
    refine ab_go ok_Mo_bindsOf 5 rfl ?_
    show ab_Z m_Mo_bindsOf _ _ _ 26 [_, _, _] [_, _, _, _] _
    refine ab_cl ok_Mo_bindsOf rfl [_, _] [_, _] rfl ⟨_, _, rfl, rfl, Or.inl ⟨_, _, rfl, rfl⟩⟩ (Nat.le_of_ble_eq_true rfl) (t_Mo_printSum (d + 1) fm X _ t (show e < 6 by omega)) ?_
    rintro _ _ ⟨rfl, rfl⟩
    show ab_Z m_Mo_bindsOf _ _ _ 27 [_, _, _] [_, _, _] _
    refine ab_go ok_Mo_bindsOf 1 rfl ?_
    show ab_Z m_Mo_bindsOf _ _ _ 28 [_, _, _] [] _
    refine ab_go ok_Mo_bindsOf 5 rfl ?_
    show ab_Z m_Mo_bindsOf _ _ _ 33 [_, _, _] [_, _, _, _] _
    refine ab_go ok_Mo_bindsOf 1 rfl ?_
    show ab_Z m_Mo_bindsOf _ _ _ 34 [_, _, _] [_, _, _] _
    refine ab_cl ok_Mo_bindsOf rfl [_, _, _] [] rfl ⟨_, _, rfl, rfl, Or.inl ⟨_, _, rfl, rfl⟩⟩ (Nat.le_of_ble_eq_true rfl) (t_Mo_lawTells d fm X _ t (lv := lv) (q := 2) (hR.k (Kr.up rfl (Kr.up rfl k1)).m14).1 hR.2.1 (by decide) (hC.2.2.2.1.k (Kr.up rfl (Kr.up rfl k1)).m14) rfl) ?_
    rintro _ _ ⟨rfl, s6, rfl, k6⟩
    show ab_Z m_Mo_bindsOf _ _ _ 35 [_, _, _] [_] _
    refine ab_go ok_Mo_bindsOf 2 rfl ?_
    show ab_Z m_Mo_bindsOf _ _ _ 37 [_, _, _] [_, _, _] _
    refine ab_cl ok_Mo_bindsOf rfl [_, _, _] [] rfl rfl (Nat.le_of_ble_eq_true rfl) (t_Mo_within (d + 1) _ _ _ _) ?_
    rintro _ _ ⟨rfl, rfl⟩
    show ab_Z m_Mo_bindsOf _ _ _ 38 [_, _, _] [_] _
    refine ab_rI ok_Mo_bindsOf rfl (⟨?_, _, rfl, (Kr.up rfl (Kr.up rfl k1)).tr k6.m01⟩)
    rw [held_w _ _ (by decide)]
    show some (Value.int (heldF _ 99)) = some (Value.int (heldF _ 99))
    rw [lawSem_cg (fun j hj => ?_) PB (hC.2.2.2.1.ok plB0_ok)]
    match j, hj with
    | 0, _ => rfl
    | 1, _ => rfl
    | 2, _ => exact congrArg (T 16 c + ·) ((vR_y (T := T) (r := s 115) h5 h6).symm.trans (Int32.add_zero _).symm)
    | 3, _ => rfl
    | 4, _ => rfl
    | 5, _ => exact (vR_y (T := T) (r := s 115) h5 h6).symm.trans (Int32.add_zero _).symm
    | 6, _ => exact (nsV_v (T := T) (r := s 115) h5 h6 c).symm
    | 7, _ => rfl
    | 8, _ =>
      show s 115 (21 + 3 * e) + s 115 (21 + 3 * e + 1) + s 115 (21 + 3 * e + 2) = 0 + vR T nc nd (s 115) 11 (15 + 3 * e + 0) + vR T nc nd (s 115) 11 (15 + 3 * e + 1) + vR T nc nd (s 115) 11 (15 + 3 * e + 2)
      rw [vR_p h5 he (by decide), vR_p h5 he (by decide), vR_p h5 he (by decide), Int32.zero_add]
      rfl
  · intro h1
    show ab_Z m_Mo_bindsOf _ _ _ 9 [_, _, _] [] _
    have hn : s 115 (15 + e) < 0 := Int32.lt_iff_toInt_lt.mpr (i_nle h1)
    rw [if_pos hn]
    refine ab_go ok_Mo_bindsOf 1 rfl ?_
    show ab_Z m_Mo_bindsOf _ _ _ 10 [_, _, _] [_] _
    exact ab_rI ok_Mo_bindsOf rfl (⟨rfl, s, rfl, Kr.rf w1 s⟩)
end

