/-! the reference's face: healing, fading -/
theorem fst_sp (p : Nat → Bool) : ∀ n k, (fstV p k n = -2 ∧ ∀ j, k ≤ j → j < k + n → p j = false) ∨ ∃ j, k ≤ j ∧ j < k + n ∧ p j = true ∧ (∀ i, k ≤ i → i < j → p i = false) ∧ fstV p k n = nI j
  | 0, k => Or.inl ⟨rfl, fun j a b => absurd b (by omega)⟩
  | n + 1, k => by
    cases hp : p k
    · have e : fstV p k (n + 1) = fstV p (k + 1) n := by rw [fstV, hp]; rfl
      rw [e]
      rcases fst_sp p n (k + 1) with ⟨h1, h2⟩ | ⟨j, a, b, c, f, g⟩
      · refine Or.inl ⟨h1, fun j a b => ?_⟩
        by_cases hj : j = k
        · rw [hj]; exact hp
        · exact h2 j (by omega) (by omega)
      · refine Or.inr ⟨j, by omega, by omega, c, fun i x y => ?_, g⟩
        by_cases hi : i = k
        · rw [hi]; exact hp
        · exact f i (by omega) y
    · exact Or.inr ⟨k, Nat.le_refl _, by omega, hp, fun i a b => absurd b (by omega), by rw [fstV, hp]; rfl⟩
theorem mono_le {p : Nat → Bool} (h : ∀ k, p k = true → p (k + 1) = true) {j : Nat} (hj : p j = true) : ∀ m, p (j + m) = true
  | 0 => hj
  | m + 1 => h _ (mono_le h hj m)
theorem fst_la {p q : Nat → Bool} {n : Nat} (hn : n < 1000) (hp : ∀ k, p k = true → p (k + 1) = true) (hq : ∀ k, q k = true → q (k + 1) = true) : laF (fstV p 0 n) (fstV q 0 n) = fstV (fun k => p k && q k) 0 n := by
  have hand : ∀ k, (p k && q k) = true → p k = true ∧ q k = true := fun k h => by rw [Bool.and_eq_true] at h; exact h
  rcases fst_sp p n 0 with ⟨a1, a2⟩ | ⟨j, -, a2, a3, a4, a5⟩
  · rw [a1, laF, if_pos (Or.inl rfl)]
    rcases fst_sp (fun k => p k && q k) n 0 with ⟨c1, c2⟩ | ⟨i, -, c2, c3, c4, c5⟩
    · exact c1.symm
    · have := a2 i (by omega) c2
      rw [(hand i c3).1] at this; cases this
  · rcases fst_sp q n 0 with ⟨b1, b2⟩ | ⟨l, -, b2, b3, b4, b5⟩
    · rw [b1, laF, if_pos (Or.inr rfl)]
      rcases fst_sp (fun k => p k && q k) n 0 with ⟨c1, c2⟩ | ⟨i, -, c2, c3, c4, c5⟩
      · exact c1.symm
      · have := b2 i (by omega) c2
        rw [(hand i c3).2] at this; cases this
    · have hpj : ∀ m, j ≤ m → p m = true := fun m hm => by have := mono_le hp a3 (m - j); rwa [show j + (m - j) = m by omega] at this
      have hql : ∀ m, l ≤ m → q m = true := fun m hm => by have := mono_le hq b3 (m - l); rwa [show l + (m - l) = m by omega] at this
      rw [a5, b5, laF, if_neg (fun z => z.elim (nI_ne2 (by omega)) (nI_ne2 (by omega)))]
      rcases fst_sp (fun k => p k && q k) n 0 with ⟨c1, c2⟩ | ⟨i, -, c2, c3, c4, c5⟩
      · have hm := c2 (max j l) (by omega) (by omega)
        rw [hpj _ (Nat.le_max_left ..), hql _ (Nat.le_max_right ..)] at hm
        cases hm
      · rw [c5]
        obtain ⟨d1, d2⟩ := hand i c3
        have e1 : j ≤ i := Nat.le_of_not_lt fun z => by rw [a4 i (by omega) z] at d1; cases d1
        have e2 : l ≤ i := Nat.le_of_not_lt fun z => by rw [b4 i (by omega) z] at d2; cases d2
        have e3 : i ≤ max j l := Nat.le_of_not_lt fun z => by
          have hm := c4 (max j l) (by omega) z
          rw [hpj _ (Nat.le_max_left ..), hql _ (Nat.le_max_right ..)] at hm
          cases hm
        by_cases hjl : j < l
        · rw [if_pos (nI_lt hjl (by omega))]; congr 1; omega
        · rw [if_neg (nI_nlt (by omega) (by omega))]; congr 1; omega
theorem fst_l0 (p : Nat → Bool) {n : Nat} (hn : n < 1000) : laF 0 (fstV p 0 n) = fstV p 0 n := by
  rcases fst_sp p n 0 with ⟨a1, a2⟩ | ⟨j, -, a2, a3, a4, a5⟩
  · rw [a1]; rfl
  · rw [a5, laF, if_neg (fun z => z.elim (fun z => absurd z (by decide)) (nI_ne2 (by omega)))]
    by_cases hj : j = 0
    · rw [hj]; rfl
    · exact if_pos (show nI 0 < nI j from nI_lt (by omega) (by omega))
theorem ht_fst {p : Nat → Nat → Bool} {n : Nat} (hn : n < 1000) (hp : ∀ f, f < 3 → ∀ k, p f k = true → p f (k + 1) = true) : htV (fun f => fstV (p f) 0 n) 3 = fstV (fun k => (p 0 k && p 1 k) && p 2 k) 0 n := by
  simp only [htV]
  rw [fst_l0 _ hn, fst_la hn (hp 0 (by decide)) (hp 1 (by decide)), fst_la hn (fun k h => ?_) (hp 2 (by decide))]
  rw [Bool.and_eq_true] at h ⊢
  exact ⟨hp 0 (by decide) k h.1, hp 1 (by decide) k h.2⟩
theorem lev_mono {V : Nat → Nat → Int32} {nc nd c f : Nat} (PG : List (List Ins)) (hI : LI V nc nd) (hc : c < nc) (hf : f < 3) (k : Nat) (h : levA V PG nd c f k = V 17 (3 * c + f)) : levA V PG nd c f (k + 1) = V 17 (3 * c + f) := by
  rw [levA, h, grV]
  obtain ⟨a1, a2, a3⟩ := hI.1 c f hc hf
  have hg := held_r (lawSem (vr 0 (V 17 (3 * c + f)) (V 16 c + (V 11 39 + nI k)) 0 (nI f) (V 11 39 + nI k) (nsV V nd c) (nI c) 0) PG) (m := 9) (by decide)
  rw [show heldF (lawSem (vr 0 (V 17 (3 * c + f)) (V 16 c + (V 11 39 + nI k)) 0 (nI f) (V 11 39 + nI k) (nsV V nd c) (nI c) 0) PG) 9 = grF PG (V 17 (3 * c + f)) (V 16 c + (V 11 39 + nI k)) (nI f) (V 11 39 + nI k) (nsV V nd c) (nI c) from rfl] at hg
  generalize grF PG (V 17 (3 * c + f)) (V 16 c + (V 11 39 + nI k)) (nI f) (V 11 39 + nI k) (nsV V nd c) (nI c) = g at hg ⊢
  have h9 : (9 : Int32).toInt = 9 := rfl
  have hs := i_addI (x := V 17 (3 * c + f)) (y := g) (by omega) (by omega)
  by_cases hx : V 17 (3 * c + f) < V 17 (3 * c + f) + g
  · rw [if_pos hx]
  · rw [if_neg hx]
    have := i_nlt hx
    exact Int32.toInt_inj.mp (by omega)
theorem prt_rng {V : Nat → Nat → Int32} {nc nd e f : Nat} (PG PF : List (List Ins)) (h5 : nc ≤ 5) (h6 : nd ≤ 6) (hI : LI V nc nd) (he : e < nd) (hf : f < 3) (k : Nat) : 0 ≤ (prtA V PF e f k).toInt ∧ (prtA V PF e f k).toInt ≤ 9 := by
  have h := (LI_rowN (PG := PG) (PF := PF) V h5 h6 hI k).2.1 e f he hf
  rw [rowN_11, (rowN_spec V PG PF h5 h6 k).2.2.2 e f he hf] at h
  exact h
theorem prt_mono {V : Nat → Nat → Int32} {PF : List (List Ins)} {e f k : Nat} (h : prtA V PF e f k = 0) : prtA V PF e f (k + 1) = 0 := by
  rw [prtA, h]; rfl
theorem fd_prt {V : Nat → Nat → Int32} {nc nd e f : Nat} (PG PF : List (List Ins)) (h5 : nc ≤ 5) (h6 : nd ≤ 6) (hI : LI V nc nd) (he : e < nd) (hf : f < 3) : ∀ k, fdA V PF e f k = prtA V PF e f k
  | 0 => rfl
  | k + 1 => by
    rw [fdA, fd_prt PG PF h5 h6 hI he hf k, prtA]
    by_cases hp : prtA V PF e f k ≤ 0
    · rw [if_pos hp]
      have hr := prt_rng PG PF h5 h6 hI he hf k
      have hp' := i_le hp
      have h0 : (0 : Int32).toInt = 0 := rfl
      have hz : prtA V PF e f k = 0 := Int32.toInt_inj.mp (by omega)
      rw [hz, fdV]
      have hg := held_r (lawSem (vr (V 20 (3 * e + f)) 0 0 (V 19 e) (nI f) (V 11 39 + nI k) 0 (nI e) 0) PF) (m := 9) (by decide)
      rw [show heldF (lawSem (vr (V 20 (3 * e + f)) 0 0 (V 19 e) (nI f) (V 11 39 + nI k) 0 (nI e) 0) PF) 9 = fdF PF (V 20 (3 * e + f)) (V 19 e) (nI f) (V 11 39 + nI k) (nI e) 0 from rfl] at hg
      generalize fdF PF (V 20 (3 * e + f)) (V 19 e) (nI f) (V 11 39 + nI k) (nI e) 0 = g at hg ⊢
      have h9 : (9 : Int32).toInt = 9 := rfl
      have hs := i_subI (x := 0) (y := g) (by omega) (by omega)
      by_cases hx : 0 - g < 0
      · rw [if_pos hx]
      · rw [if_neg hx]
        have := i_nlt hx
        exact Int32.toInt_inj.mp (by omega)
    · rw [if_neg hp]
def hlB (V : Nat → Nat → Int32) (c : Nat) : Nat → Bool
  | 0 => true
  | k + 1 => hlB V c k && decide (V 11 (3 * c + k) = V 17 (3 * c + k))
section
variable (d : Nat) (fm : Value) (X : Nat × (Nat → Int32)) (s T : Nat → Nat → Int32) (t : Nat → Nat → Int64)
variable {lv nc nd nt : Nat} {PT PG PB PF : List (List Ins)}
theorem t_Mo_isHealed (hR : RT s lv T nc nd nt) {c : Nat} (hc : c < nc) : ab_T g_Mo_isHealed (d + 1) (0, 0) [.ref 81, .int (nI c)] (HA fm X s t) (PI (bB (hlB (vR T nc nd (s 115)) c 3)) (HA fm X s t)) := by
  have h5 := hR.2.2.1.2
  have hno : ∀ k, hlB (vR T nc nd (s 115)) c k = false → ∀ j, hlB (vR T nc nd (s 115)) c (k + j) = false := by
    intro k hk j
    induction j with
    | zero => exact hk
    | succ j ih => rw [← Nat.add_assoc, hlB, ih, Bool.false_and]
  have hS : ∀ k, k < 3 → hlB (vR T nc nd (s 115)) c (k + 1) = (hlB (vR T nc nd (s 115)) c k && decide (s 115 (3 * c + k) = T 17 (3 * c + k))) := fun k hk => by rw [hlB, vR_l hc hk, vR_o (show (17 : Nat) ≠ 11 by decide)]
  refine ab_T_of (M := m_Mo_isHealed) rfl rfl (Nat.le_of_ble_eq_true rfl) ?_
  show ab_Z m_Mo_isHealed _ _ _ 0 [_, _, _] [] _
  refine ab_go ok_Mo_isHealed 2 rfl ?_
  show ab_Z m_Mo_isHealed _ _ _ 2 [_, _, _] [] _
  refine lp_dn 3 (fun k => hlB (vR T nc nd (s 115)) c k = true → ab_Z m_Mo_isHealed (d + 1) (0, 0) (PI (bB (hlB (vR T nc nd (s 115)) c 3)) (HA fm X s t)) 2 [some (.ref 81), some (.int (nI c)), some (.int (nI k))] [] (HA fm X s t)) ?_ ?_ rfl
  · intro hh
    rw [hh]
    refine ab_go ok_Mo_isHealed 2 rfl ?_
    show ab_Z m_Mo_isHealed _ _ _ 4 [_, _, _] [_, _] _
    refine ab_go ok_Mo_isHealed 1 rfl ?_
    show ab_Z m_Mo_isHealed _ _ _ 22 [_, _, _] [] _
    refine ab_go ok_Mo_isHealed 1 rfl ?_
    show ab_Z m_Mo_isHealed _ _ _ 23 [_, _, _] [_] _
    exact ab_rZ ok_Mo_isHealed rfl (by first | decide | exact bB_01 _ | exact bI_01 _) (⟨rfl, rfl⟩)
  · intro k hk ih hh
    refine ab_go ok_Mo_isHealed 2 rfl ?_
    show ab_Z m_Mo_isHealed _ _ _ 4 [_, _, _] [_, _] _
    refine ab_br ok_Mo_isHealed rfl rfl ?_ ?_
    · intro h1
      show ab_Z m_Mo_isHealed _ _ _ 22 [_, _, _] [] _
      exact absurd h1 (lp_in (N := 3) (by decide) hk)
    · intro h1
      show ab_Z m_Mo_isHealed _ _ _ 5 [_, _, _] [] _
      refine ab_go ok_Mo_isHealed 7 rfl ?_
      show ab_Z m_Mo_isHealed _ _ _ 12 [_, _, _] [_, _] _
      refine ab_ia ok_Mo_isHealed rfl rfl (k := (3 * c + k)) (by first | rfl | (simp only [LL1, LL2, LL3, LL4, LL5, LL6, LL7, LL8, LL10, LL15, LL18, LL20, LL21, LL22, LL23, LL24, LL32, LL39, LL40, LL130, LL420, pk_mul, nI_add]; done) | (simp only [LL1, LL2, LL3, LL4, LL5, LL6, LL7, LL8, LL10, LL15, LL18, LL20, LL21, LL22, LL23, LL24, LL32, LL39, LL40, LL130, LL420, pk_mul, nI_add]; congr 1; omega)) (by omega) (Nat.le_of_ble_eq_true rfl) ?_
      show ab_Z m_Mo_isHealed _ _ _ 13 [_, _, _] [_] _
      refine ab_go ok_Mo_isHealed 3 rfl ?_
      show ab_Z m_Mo_isHealed _ _ _ 16 [_, _, _] [_, _, _, _] _
      refine ab_cl ok_Mo_isHealed rfl [_, _, _] [_] rfl ⟨_, _, rfl, rfl, Or.inl ⟨_, _, rfl, rfl⟩⟩ (Nat.le_of_ble_eq_true rfl) (t_Mo_firstLevel d fm X s T t hR hc hk) ?_
      rintro _ _ ⟨rfl, rfl⟩
      show ab_Z m_Mo_isHealed _ _ _ 17 [_, _, _] [_, _] _
      refine ab_br ok_Mo_isHealed rfl rfl ?_ ?_
      · intro h2
        show ab_Z m_Mo_isHealed _ _ _ 20 [_, _, _] [] _
        refine ab_go ok_Mo_isHealed 2 rfl ?_
        show ab_Z m_Mo_isHealed _ _ _ 2 [_, _, _] [] _
        rw [nI_succ] at ih
        exact ih (by rw [hS k hk, hh, decide_eq_true h2]; rfl)
      · intro h2
        show ab_Z m_Mo_isHealed _ _ _ 18 [_, _, _] [] _
        refine ab_go ok_Mo_isHealed 1 rfl ?_
        show ab_Z m_Mo_isHealed _ _ _ 19 [_, _, _] [_] _
        have h0 := hno (k + 1) (by rw [hS k hk, decide_eq_false h2, Bool.and_false]) (2 - k)
        rw [show k + 1 + (2 - k) = 3 by omega] at h0
        rw [h0]
        exact ab_rZ ok_Mo_isHealed rfl (by first | decide | exact bB_01 _ | exact bI_01 _) (⟨rfl, rfl⟩)
theorem t_Mo_heals (hC : RC s lv T nc nd nt PT PG PB PF) (hQ : QI (vR T nc nd (s 114)) nc nd nt) (x : Int32) : ab_T g_Mo_heals (d + 4) (0, 0) [.ref 81, .int x] (HA fm X s t) (PR w4 (if inR nc x then htV (fun f => fstV (fun k => decide (levA (vR T nc nd (s 114)) PG nd x.toNatClampNeg f k = vR T nc nd (s 114) 17 (3 * x.toNatClampNeg + f))) 0 101) 3 else -1) fm X s t) := by
  have h5 := hC.1.2.2.1.2
  have h6 := hC.1.2.2.2.1.2
  refine ab_T_of (M := m_Mo_heals) rfl rfl (Nat.le_of_ble_eq_true rfl) ?_
  show ab_Z m_Mo_heals _ _ _ 0 [_, _, _] [] _
  refine ab_go ok_Mo_heals 2 rfl ?_
  show ab_Z m_Mo_heals _ _ _ 2 [_, _, _] [_, _] _
  refine ab_cl ok_Mo_heals rfl [_, _] [] rfl ⟨_, _, rfl, rfl, Or.inl ⟨_, _, rfl, rfl⟩⟩ (Nat.le_of_ble_eq_true rfl) (t_Mo_isClerk (d + 2) fm X s T t hC.1 x) ?_
  rintro _ _ ⟨rfl, rfl⟩
  show ab_Z m_Mo_heals _ _ _ 3 [_, _, _] [_] _
  refine ab_br ok_Mo_heals rfl rfl ?_ ?_
  · intro h1
    show ab_Z m_Mo_heals _ _ _ 4 [_, _, _] [] _
    refine ab_go ok_Mo_heals 1 rfl ?_
    show ab_Z m_Mo_heals _ _ _ 5 [_, _, _] [_] _
    exact ab_rI ok_Mo_heals rfl (⟨by rw [if_neg (bI_0.mp h1)], s, rfl, Kr.rf w4 s⟩)
  · intro h1
    show ab_Z m_Mo_heals _ _ _ 6 [_, _, _] [] _
    rw [if_pos (bI_n0 h1)]
    obtain ⟨c, hc, rfl⟩ := inR_nat (bI_n0 h1)
    rw [nI_c (by omega)]
    refine ab_go ok_Mo_heals 1 rfl ?_
    show ab_Z m_Mo_heals _ _ _ 7 [_, _, _] [_] _
    refine ab_cl ok_Mo_heals rfl [_] [] rfl ⟨_, _, rfl, rfl, Or.inl ⟨_, _, rfl, rfl⟩⟩ (Nat.le_of_ble_eq_true rfl) (t_Mo_copies' (d + 3) fm X s T t hC) ?_
    rintro _ _ ⟨rfl, s1, rfl, k1, hC1, hv1, hl1, h40⟩
    show ab_Z m_Mo_heals _ _ _ 8 [_, _, _] [] _
    generalize vR T nc nd (s 114) = V at hv1 hQ ⊢
    rw [ht_fst (by decide) (fun f hf k h => decide_eq_true (lev_mono PG hQ.2 hc hf k (of_decide_eq_true h)))]
    obtain ⟨q, hq⟩ : ∃ q : Nat → Bool, q = fun k => (decide (levA V PG nd c 0 k = V 17 (3 * c + 0)) && decide (levA V PG nd c 1 k = V 17 (3 * c + 1))) && decide (levA V PG nd c 2 k = V 17 (3 * c + 2)) := ⟨_, rfl⟩
    rw [← hq]
    have hqn : ∀ n, hlB (ab_ro V 11 (rowN V PG PF nc nd n)) c 3 = q n := by
      intro n
      have hr := (rowN_spec V PG PF h5 h6 n).2.2.1
      rw [hq]
      simp only [hlB]
      rw [rowN_11, rowN_11, rowN_11, hr c 0 hc (by decide), hr c 1 hc (by decide), hr c 2 hc (by decide), ab_ro_o (show (17 : Nat) ≠ 11 by decide), Bool.true_and]
    refine ab_go ok_Mo_heals 2 rfl ?_
    show ab_Z m_Mo_heals _ _ _ 10 [_, _, _] [] _
    refine lp_dn 101 (fun n => ∀ s2, Kr w3 s1 s2 → vR T nc nd (s2 115) = ab_ro V 11 (rowN V PG PF nc nd n) → fstV q n (101 - n) = fstV q 0 101 → ab_Z m_Mo_heals (d + 4) (0, 0) (PR w4 (fstV q 0 101) fm X s t) 10 [some (.ref 81), some (.int (nI c)), some (.int (nI n))] [] (HA fm X s2 t)) ?_ ?_ s1 (Kr.rf w3 s1) (by rw [hv1, rowN, ro_id]) rfl
    · intro s2 hk2 hv2 hf
      refine ab_go ok_Mo_heals 2 rfl ?_
      show ab_Z m_Mo_heals _ _ _ 12 [_, _, _] [_, _] _
      refine ab_go ok_Mo_heals 1 rfl ?_
      show ab_Z m_Mo_heals _ _ _ 23 [_, _, _] [] _
      refine ab_go ok_Mo_heals 1 rfl ?_
      show ab_Z m_Mo_heals _ _ _ 24 [_, _, _] [_] _
      exact ab_rI ok_Mo_heals rfl (⟨som (by rw [← hf]; rfl), s2, rfl, k1.m34.tr hk2.m34⟩)
    · intro n hn ih s2 hk2 hv2 hf
      obtain ⟨m, hm⟩ : ∃ m, 101 - n = m + 1 := ⟨100 - n, by omega⟩
      rw [hm, fstV] at hf
      rw [show 101 - (n + 1) = m by omega] at ih
      have hC2 := hC1.k hk2.m34
      refine ab_go ok_Mo_heals 2 rfl ?_
      show ab_Z m_Mo_heals _ _ _ 12 [_, _, _] [_, _] _
      refine ab_br ok_Mo_heals rfl rfl ?_ ?_
      · intro h2
        show ab_Z m_Mo_heals _ _ _ 23 [_, _, _] [] _
        exact absurd h2 (show ¬ nI 100 < nI n from nI_nlt (by omega) (by decide))
      · intro h2
        show ab_Z m_Mo_heals _ _ _ 13 [_, _, _] [] _
        refine ab_go ok_Mo_heals 2 rfl ?_
        show ab_Z m_Mo_heals _ _ _ 15 [_, _, _] [_, _] _
        refine ab_cl ok_Mo_heals rfl [_, _] [] rfl ⟨_, _, rfl, rfl, Or.inl ⟨_, _, rfl, rfl⟩⟩ (Nat.le_of_ble_eq_true rfl) (t_Mo_isHealed (d + 2) fm X s2 T t hC2.1 hc) ?_
        rintro _ _ ⟨rfl, rfl⟩
        show ab_Z m_Mo_heals _ _ _ 16 [_, _, _] [_] _
        rw [hv2, hqn n]
        refine ab_br ok_Mo_heals rfl rfl ?_ ?_
        · intro h3
          show ab_Z m_Mo_heals _ _ _ 19 [_, _, _] [] _
          rw [bB_0.mp h3, if_neg (by decide)] at hf
          refine ab_go ok_Mo_heals 1 rfl ?_
          show ab_Z m_Mo_heals _ _ _ 20 [_, _, _] [_] _
          refine ab_cl ok_Mo_heals rfl [_] [] rfl ⟨_, _, rfl, rfl, Or.inl ⟨_, _, rfl, rfl⟩⟩ (Nat.le_of_ble_eq_true rfl) (t_Mo_yearGoes d fm X s2 T t hC2 (by rw [hv2]; exact LI_rowN V h5 h6 hQ.2 n)) ?_
          rintro _ _ ⟨rfl, s3, rfl, hk3, -, hv3, -⟩
          show ab_Z m_Mo_heals _ _ _ 21 [_, _, _] [] _
          refine ab_go ok_Mo_heals 2 rfl ?_
          show ab_Z m_Mo_heals _ _ _ 10 [_, _, _] [] _
          rw [nI_succ] at ih
          exact ih s3 (hk2.tr hk3) (by rw [hv3, hv2, ro_ro]; rfl) hf
        · intro h3
          show ab_Z m_Mo_heals _ _ _ 17 [_, _, _] [] _
          rw [bB_n0 h3, if_pos rfl] at hf
          refine ab_go ok_Mo_heals 1 rfl ?_
          show ab_Z m_Mo_heals _ _ _ 18 [_, _, _] [_] _
          exact ab_rI ok_Mo_heals rfl (⟨som hf, s2, rfl, k1.m34.tr hk2.m34⟩)
theorem t_Mo_blank (hC : RC s lv T nc nd nt PT PG PB PF) (hQ : QI (vR T nc nd (s 114)) nc nd nt) (x : Int32) : ab_T g_Mo_blank (d + 4) (0, 0) [.ref 81, .int x] (HA fm X s t) (PR w4 (if inR nd x then htV (fun f => fstV (fun k => decide (fdA (vR T nc nd (s 114)) PF x.toNatClampNeg f k = 0)) 0 101) 3 else -1) fm X s t) := by
  have h5 := hC.1.2.2.1.2
  have h6 := hC.1.2.2.2.1.2
  refine ab_T_of (M := m_Mo_blank) rfl rfl (Nat.le_of_ble_eq_true rfl) ?_
  show ab_Z m_Mo_blank _ _ _ 0 [_, _, _] [] _
  refine ab_go ok_Mo_blank 2 rfl ?_
  show ab_Z m_Mo_blank _ _ _ 2 [_, _, _] [_, _] _
  refine ab_cl ok_Mo_blank rfl [_, _] [] rfl ⟨_, _, rfl, rfl, Or.inl ⟨_, _, rfl, rfl⟩⟩ (Nat.le_of_ble_eq_true rfl) (t_Mo_isDeed (d + 2) fm X s T t hC.1 x) ?_
  rintro _ _ ⟨rfl, rfl⟩
  show ab_Z m_Mo_blank _ _ _ 3 [_, _, _] [_] _
  refine ab_br ok_Mo_blank rfl rfl ?_ ?_
  · intro h1
    show ab_Z m_Mo_blank _ _ _ 4 [_, _, _] [] _
    refine ab_go ok_Mo_blank 1 rfl ?_
    show ab_Z m_Mo_blank _ _ _ 5 [_, _, _] [_] _
    exact ab_rI ok_Mo_blank rfl (⟨by rw [if_neg (bI_0.mp h1)], s, rfl, Kr.rf w4 s⟩)
  · intro h1
    show ab_Z m_Mo_blank _ _ _ 6 [_, _, _] [] _
    rw [if_pos (bI_n0 h1)]
    obtain ⟨e, he, rfl⟩ := inR_nat (bI_n0 h1)
    rw [nI_c (by omega)]
    refine ab_go ok_Mo_blank 1 rfl ?_
    show ab_Z m_Mo_blank _ _ _ 7 [_, _, _] [_] _
    refine ab_cl ok_Mo_blank rfl [_] [] rfl ⟨_, _, rfl, rfl, Or.inl ⟨_, _, rfl, rfl⟩⟩ (Nat.le_of_ble_eq_true rfl) (t_Mo_copies' (d + 3) fm X s T t hC) ?_
    rintro _ _ ⟨rfl, s1, rfl, k1, hC1, hv1, hl1, h40⟩
    show ab_Z m_Mo_blank _ _ _ 8 [_, _, _] [] _
    generalize vR T nc nd (s 114) = V at hv1 hQ ⊢
    rw [ht_fst (by decide) (fun f hf k h => decide_eq_true (by rw [fd_prt PG PF h5 h6 hQ.2 he hf]; exact prt_mono (by rw [← fd_prt PG PF h5 h6 hQ.2 he hf]; exact of_decide_eq_true h)))]
    obtain ⟨q, hq⟩ : ∃ q : Nat → Bool, q = fun k => (decide (fdA V PF e 0 k = 0) && decide (fdA V PF e 1 k = 0)) && decide (fdA V PF e 2 k = 0) := ⟨_, rfl⟩
    rw [← hq]
    have hqn : ∀ n (r : Nat → Int32), vR T nc nd r = ab_ro V 11 (rowN V PG PF nc nd n) → (r (21 + 3 * e) + r (21 + 3 * e + 1) + r (21 + 3 * e + 2) = 0 ↔ q n = true) := by
      intro n r hr
      have hv : ∀ f, f < 3 → r (21 + 3 * e + f) = fdA V PF e f n := fun f hf => by
        rw [fd_prt PG PF h5 h6 hQ.2 he hf, ← vR_p (T := T) (r := r) h5 he hf, hr, rowN_11]
        exact (rowN_spec V PG PF h5 h6 n).2.2.2 e f he hf
      have hg : ∀ f, f < 3 → 0 ≤ (fdA V PF e f n).toInt ∧ (fdA V PF e f n).toInt ≤ 9 := fun f hf => by
        rw [fd_prt PG PF h5 h6 hQ.2 he hf]; exact prt_rng PG PF h5 h6 hQ.2 he hf n
      have v0 := hv 0 (by decide)
      rw [Nat.add_zero] at v0
      rw [v0, hv 1 (by decide), hv 2 (by decide), hq]
      have g0 := hg 0 (by decide)
      have g1 := hg 1 (by decide)
      have g2 := hg 2 (by decide)
      dsimp only
      generalize fdA V PF e 0 n = a0 at g0 ⊢
      generalize fdA V PF e 1 n = a1 at g1 ⊢
      generalize fdA V PF e 2 n = a2 at g2 ⊢
      have s1 := i_addI (x := a0) (y := a1) (by omega) (by omega)
      have s2 := i_addI (x := a0 + a1) (y := a2) (by omega) (by omega)
      have h0 : (0 : Int32).toInt = 0 := rfl
      constructor
      · intro hz
        have hz' := congrArg Int32.toInt hz
        rw [decide_eq_true (Int32.toInt_inj.mp (show a0.toInt = (0 : Int32).toInt by omega)), decide_eq_true (Int32.toInt_inj.mp (show a1.toInt = (0 : Int32).toInt by omega)), decide_eq_true (Int32.toInt_inj.mp (show a2.toInt = (0 : Int32).toInt by omega))]
        rfl
      · intro hz
        simp only [Bool.and_eq_true, decide_eq_true_eq] at hz
        rw [hz.1.1, hz.1.2, hz.2]
        rfl
    refine ab_go ok_Mo_blank 2 rfl ?_
    show ab_Z m_Mo_blank _ _ _ 10 [_, _, _] [] _
    refine lp_dn 101 (fun n => ∀ s2, Kr w3 s1 s2 → vR T nc nd (s2 115) = ab_ro V 11 (rowN V PG PF nc nd n) → fstV q n (101 - n) = fstV q 0 101 → ab_Z m_Mo_blank (d + 4) (0, 0) (PR w4 (fstV q 0 101) fm X s t) 10 [some (.ref 81), some (.int (nI e)), some (.int (nI n))] [] (HA fm X s2 t)) ?_ ?_ s1 (Kr.rf w3 s1) (by rw [hv1, rowN, ro_id]) rfl
    · intro s2 hk2 hv2 hf
      refine ab_go ok_Mo_blank 2 rfl ?_
      show ab_Z m_Mo_blank _ _ _ 12 [_, _, _] [_, _] _
      refine ab_go ok_Mo_blank 1 rfl ?_
      show ab_Z m_Mo_blank _ _ _ 23 [_, _, _] [] _
      refine ab_go ok_Mo_blank 1 rfl ?_
      show ab_Z m_Mo_blank _ _ _ 24 [_, _, _] [_] _
      exact ab_rI ok_Mo_blank rfl (⟨som (by rw [← hf]; rfl), s2, rfl, k1.m34.tr hk2.m34⟩)
    · intro n hn ih s2 hk2 hv2 hf
      obtain ⟨m, hm⟩ : ∃ m, 101 - n = m + 1 := ⟨100 - n, by omega⟩
      rw [hm, fstV] at hf
      rw [show 101 - (n + 1) = m by omega] at ih
      have hC2 := hC1.k hk2.m34
      refine ab_go ok_Mo_blank 2 rfl ?_
      show ab_Z m_Mo_blank _ _ _ 12 [_, _, _] [_, _] _
      refine ab_br ok_Mo_blank rfl rfl ?_ ?_
      · intro h2
        show ab_Z m_Mo_blank _ _ _ 23 [_, _, _] [] _
        exact absurd h2 (show ¬ nI 100 < nI n from nI_nlt (by omega) (by decide))
      · intro h2
        show ab_Z m_Mo_blank _ _ _ 13 [_, _, _] [] _
        refine ab_go ok_Mo_blank 2 rfl ?_
        show ab_Z m_Mo_blank _ _ _ 15 [_, _, _] [_, _] _
        refine ab_cl ok_Mo_blank rfl [_, _] [] rfl ⟨_, _, rfl, rfl, Or.inl ⟨_, _, rfl, rfl⟩⟩ (Nat.le_of_ble_eq_true rfl) (t_Mo_printSum (d + 3) fm X s2 t (show e < 6 by omega)) ?_
        rintro _ _ ⟨rfl, rfl⟩
        show ab_Z m_Mo_blank _ _ _ 16 [_, _, _] [_] _
        refine ab_br ok_Mo_blank rfl rfl ?_ ?_
        · intro h3
          show ab_Z m_Mo_blank _ _ _ 17 [_, _, _] [] _
          rw [(hqn n _ hv2).mp h3, if_pos rfl] at hf
          refine ab_go ok_Mo_blank 1 rfl ?_
          show ab_Z m_Mo_blank _ _ _ 18 [_, _, _] [_] _
          exact ab_rI ok_Mo_blank rfl (⟨som hf, s2, rfl, k1.m34.tr hk2.m34⟩)
        · intro h3
          show ab_Z m_Mo_blank _ _ _ 19 [_, _, _] [] _
          have hqf : q n = false := by
            cases hx : q n
            · rfl
            · exact absurd ((hqn n _ hv2).mpr hx) h3
          rw [hqf, if_neg (by decide)] at hf
          refine ab_go ok_Mo_blank 1 rfl ?_
          show ab_Z m_Mo_blank _ _ _ 20 [_, _, _] [_] _
          refine ab_cl ok_Mo_blank rfl [_] [] rfl ⟨_, _, rfl, rfl, Or.inl ⟨_, _, rfl, rfl⟩⟩ (Nat.le_of_ble_eq_true rfl) (t_Mo_yearGoes d fm X s2 T t hC2 (by rw [hv2]; exact LI_rowN V h5 h6 hQ.2 n)) ?_
          rintro _ _ ⟨rfl, s3, rfl, hk3, -, hv3, -⟩
          show ab_Z m_Mo_blank _ _ _ 21 [_, _, _] [] _
          refine ab_go ok_Mo_blank 2 rfl ?_
          show ab_Z m_Mo_blank _ _ _ 10 [_, _, _] [] _
          rw [nI_succ] at ih
          exact ih s3 (hk2.tr hk3) (by rw [hv3, hv2, ro_ro]; rfl) hf
end

