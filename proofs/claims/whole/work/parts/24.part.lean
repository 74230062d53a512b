theorem enc_neg {k n : Nat} (h2 : 2 ≤ k) (h5 : k ≤ 5) : encI (k, n) < 0 ∧ -encI (k, n) - 268 < 0 := by
  have hk : k = 2 ∨ k = 3 ∨ k = 4 ∨ k = 5 := by omega
  rcases hk with rfl | rfl | rfl | rfl
  · exact ⟨show (-43 : Int32) < 0 by decide, show -(-43 : Int32) - 268 < 0 by decide⟩
  · exact ⟨show (-45 : Int32) < 0 by decide, show -(-45 : Int32) - 268 < 0 by decide⟩
  · exact ⟨show (-42 : Int32) < 0 by decide, show -(-42 : Int32) - 268 < 0 by decide⟩
  · exact ⟨show (-47 : Int32) < 0 by decide, show -(-47 : Int32) - 268 < 0 by decide⟩
theorem nI_nn (x : Int32) : -(-x) = x := Int32.neg_neg
theorem L268 : (268 : Int32) = nI 268 := rfl
theorem nI_neg {n : Nat} (h0 : 0 < n) (h : n < 2147483648) : -nI n < 0 := by
  rw [Int32.lt_iff_toInt_lt, sb_negT h]
  have : (0 : Int32).toInt = 0 := rfl
  omega
section
variable (d : Nat) (fm : Value) (X : Nat × (Nat → Int32)) (s : Nat → Nat → Int32) (t : Nat → Nat → Int64)
theorem t_La_partOf_22 (z : Stk) {a b i : Nat} (Q : List Ins) (hz : z.2.1 = 0) (hi : i < 13) (hE : s 24 i = nI b) (hF : if i = 0 then a = 0 else s 24 (i - 1) = nI a) (hb : b = a + Q.length) (hb4 : b ≤ 400) (hQ : ∀ j q, Q[j]? = some q → s 23 (a + j) = encI q) (hok : okQ Q 0) : ab_T g_La_partOf (d + 1) (0, 0) [.ref 22, .int (nI i), .ref 12] (HA fm X (lpH s 22 z) t) (PI ((runI (s 12) z Q).1 0) (HA fm X (lpH s 22 (runI (s 12) z Q)) t)) := by
  have loop : ab_Z m_La_partOf (d + 1) (0, 0) (PI ((runI (s 12) z Q).1 0) (HA fm X (lpH s 22 (runI (s 12) z Q)) t)) 32 [some (.ref 22), none, some (.ref 12), some (.int (nI b)), some (.int 0), some (.int (nI a)), none, none] [] (HA fm X (lpH s 22 z) t) := by
    have h0 : (runI (s 12) z (Q.take 0)) = z := rfl
    have := lp_dn Q.length (fun j => ab_Z m_La_partOf (d + 1) (0, 0) (PI ((runI (s 12) z Q).1 0) (HA fm X (lpH s 22 (runI (s 12) z Q)) t)) 32 [some (.ref 22), none, some (.ref 12), some (.int (nI b)), some (.int (nI (runI (s 12) z (Q.take j)).2.1)), some (.int (nI (a + j))), none, none] [] (HA fm X (lpH s 22 (runI (s 12) z (Q.take j))) t)) ?_ ?_
    · rw [h0, hz, Nat.add_zero] at this
      exact this
    · rw [List.take_length, ← hb]
      refine ab_go ok_La_partOf 1 rfl ?_
      show ab_Z m_La_partOf _ _ _ 33 [_, _, _, _, _, _, _, _] [_] _
      refine ab_br ok_La_partOf rfl rfl ?_ ?_
      · intro h1
        show ab_Z m_La_partOf _ _ _ 119 [_, _, _, _, _, _, _, _] [] _
        exact absurd h1 (nI_l0 (by omega))
      · intro h1
        show ab_Z m_La_partOf _ _ _ 34 [_, _, _, _, _, _, _, _] [] _
        refine ab_go ok_La_partOf 2 rfl ?_
        show ab_Z m_La_partOf _ _ _ 36 [_, _, _, _, _, _, _, _] [_, _] _
        refine ab_br ok_La_partOf rfl rfl ?_ ?_
        · intro h2
          show ab_Z m_La_partOf _ _ _ 119 [_, _, _, _, _, _, _, _] [] _
          refine ab_go ok_La_partOf 3 rfl ?_
          show ab_Z m_La_partOf _ _ _ 122 [_, _, _, _, _, _, _, _] [_, _] _
          refine ab_go ok_La_partOf 1 rfl ?_
          show ab_Z m_La_partOf _ _ _ 123 [_, _, _, _, _, _, _, _] [_] _
          exact ab_rI ok_La_partOf rfl (⟨by rw [show lpH s 22 (runI (s 12) z Q) 25 (0 : Int32).toNatClampNeg = (runI (s 12) z Q).1 0 from lpH_st s 22 _ 0], rfl⟩)
        · intro h2
          show ab_Z m_La_partOf _ _ _ 37 [_, _, _, _, _, _, _, _] [] _
          exact absurd (lp_out b) h2
    · intro j hj ih
      obtain ⟨q, hq⟩ : ∃ q, Q[j]? = some q := ⟨Q[j], List.getElem?_eq_getElem hj⟩
      have hoj := okQ_at (s 12) Q z (by rw [hz]; exact hok) j q hq
      rw [runI_succ (s 12) z Q hq, ← Nat.add_assoc, nI_succ] at ih
      have hv := hQ j q hq
      generalize runI (s 12) z (List.take j Q) = y at ih hoj ⊢
      have ec : lpH s 22 y 23 (nI (a + j)).toNatClampNeg = encI q := by
        rw [nI_c (by omega), lpH_o s 22 y (by decide) (by decide)]
        exact hv
      refine ab_go ok_La_partOf 1 rfl ?_
      show ab_Z m_La_partOf _ _ _ 33 [_, _, _, _, _, _, _, _] [_] _
      refine ab_br ok_La_partOf rfl rfl ?_ ?_
      · intro h1
        show ab_Z m_La_partOf _ _ _ 119 [_, _, _, _, _, _, _, _] [] _
        exact absurd h1 (nI_l0 (by omega))
      · intro h1
        show ab_Z m_La_partOf _ _ _ 34 [_, _, _, _, _, _, _, _] [] _
        refine ab_go ok_La_partOf 2 rfl ?_
        show ab_Z m_La_partOf _ _ _ 36 [_, _, _, _, _, _, _, _] [_, _] _
        refine ab_br ok_La_partOf rfl rfl ?_ ?_
        · intro h2
          show ab_Z m_La_partOf _ _ _ 119 [_, _, _, _, _, _, _, _] [] _
          exact absurd h2 (lp_in (by omega) (by omega))
        · intro h2
          show ab_Z m_La_partOf _ _ _ 37 [_, _, _, _, _, _, _, _] [] _
          refine ab_go ok_La_partOf 4 rfl ?_
          show ab_Z m_La_partOf _ _ _ 41 [_, _, _, _, _, _, _, _] [_, _] _
          refine ab_br ok_La_partOf rfl rfl ?_ ?_
          · intro h3
            show ab_Z m_La_partOf _ _ _ 119 [_, _, _, _, _, _, _, _] [] _
            exact absurd h3 (lp_in (N := 400) (by decide) (by omega))
          · intro h3
            show ab_Z m_La_partOf _ _ _ 42 [_, _, _, _, _, _, _, _] [] _
            refine ab_go ok_La_partOf 3 rfl ?_
            show ab_Z m_La_partOf _ _ _ 45 [_, _, _, _, _, _, _, _] [_, _] _
            refine ab_ck ok_La_partOf rfl rfl (by rw [nI_t (by omega)]; omega) ?_
            show ab_Z m_La_partOf _ _ _ 46 [_, _, _, _, _, _, _, _] [_] _
            rw [ec]
            refine ab_go ok_La_partOf 7 rfl ?_
            show ab_Z m_La_partOf _ _ _ 53 [_, _, _, _, _, _, _, _] [_] _
            obtain ⟨k, n⟩ := q
            have hk3 : k = 0 ∨ k = 1 ∨ ∃ k2, k = k2 + 2 := by
              rcases Nat.lt_or_ge k 2 with h9 | h9
              · omega
              · exact Or.inr (Or.inr ⟨k - 2, by omega⟩)
            rcases hk3 with rfl | rfl | ⟨k, rfl⟩
            · obtain ⟨o1, o2⟩ := hoj
              refine ab_br ok_La_partOf rfl rfl ?_ ?_
              · intro h4
                show ab_Z m_La_partOf _ _ _ 66 [_, _, _, _, _, _, _, _] [] _
                exact absurd h4 (nI_l0 (n := n) (by omega))
              · intro h4
                show ab_Z m_La_partOf _ _ _ 54 [_, _, _, _, _, _, _, _] [] _
                refine ab_go ok_La_partOf 4 rfl ?_
                show ab_Z m_La_partOf _ _ _ 58 [_, _, _, _, _, _, _, _] [_, _] _
                refine ab_br ok_La_partOf rfl rfl ?_ ?_
                · intro h5
                  show ab_Z m_La_partOf _ _ _ 66 [_, _, _, _, _, _, _, _] [] _
                  exact absurd h5 (lp_in (N := 15) (by decide) o1)
                · intro h5
                  show ab_Z m_La_partOf _ _ _ 59 [_, _, _, _, _, _, _, _] [] _
                  refine ab_go ok_La_partOf 4 rfl ?_
                  show ab_Z m_La_partOf _ _ _ 63 [_, _, _, _, _, _, _, _] [_, _, _] _
                  refine ab_ck ok_La_partOf rfl rfl (by rw [nI_t (by omega)]; omega) ?_
                  show ab_Z m_La_partOf _ _ _ 64 [_, _, _, _, _, _, _, _] [] _
                  rw [nI_c (by omega), lpH_up s 22 y y.2.1 (y.2.1 + 1)]
                  refine ab_go ok_La_partOf 4 rfl ?_
                  show ab_Z m_La_partOf _ _ _ 32 [_, _, _, _, _, _, _, _] [] _
                  rw [← nI_succ y.2.1]
                  exact ih
            · obtain ⟨o1, o2⟩ := hoj
              refine ab_br ok_La_partOf rfl rfl ?_ ?_
              · intro h4
                show ab_Z m_La_partOf _ _ _ 66 [_, _, _, _, _, _, _, _] [] _
                have en : -encI (1, n) - 268 = nI n := by
                  show -(-nI (268 + n)) - 268 = nI n
                  rw [nI_nn, L268, pk_sub (by omega), Nat.add_sub_cancel_left]
                rw [en]
                refine ab_go ok_La_partOf 1 rfl ?_
                show ab_Z m_La_partOf _ _ _ 67 [_, _, _, _, _, _, _, _] [_] _
                refine ab_br ok_La_partOf rfl rfl ?_ ?_
                · intro h5
                  show ab_Z m_La_partOf _ _ _ 86 [_, _, _, _, _, _, _, _] [] _
                  exact absurd h5 (nI_l0 (by omega))
                · intro h5
                  show ab_Z m_La_partOf _ _ _ 68 [_, _, _, _, _, _, _, _] [] _
                  refine ab_go ok_La_partOf 3 rfl ?_
                  show ab_Z m_La_partOf _ _ _ 71 [_, _, _, _, _, _, _, _] [_, _] _
                  refine ab_br ok_La_partOf rfl rfl ?_ ?_
                  · intro h6
                    show ab_Z m_La_partOf _ _ _ 86 [_, _, _, _, _, _, _, _] [] _
                    exact absurd h6 (lp_in (N := 9) (by decide) o2)
                  · intro h6
                    show ab_Z m_La_partOf _ _ _ 72 [_, _, _, _, _, _, _, _] [] _
                    refine ab_go ok_La_partOf 4 rfl ?_
                    show ab_Z m_La_partOf _ _ _ 76 [_, _, _, _, _, _, _, _] [_, _] _
                    refine ab_br ok_La_partOf rfl rfl ?_ ?_
                    · intro h7
                      show ab_Z m_La_partOf _ _ _ 86 [_, _, _, _, _, _, _, _] [] _
                      exact absurd h7 (lp_in (N := 15) (by decide) o1)
                    · intro h7
                      show ab_Z m_La_partOf _ _ _ 77 [_, _, _, _, _, _, _, _] [] _
                      refine ab_go ok_La_partOf 5 rfl ?_
                      show ab_Z m_La_partOf _ _ _ 82 [_, _, _, _, _, _, _, _] [_, _, _, _] _
                      refine ab_ck ok_La_partOf rfl rfl (by rw [nI_t (by omega)]; omega) ?_
                      show ab_Z m_La_partOf _ _ _ 83 [_, _, _, _, _, _, _, _] [_, _, _] _
                      rw [nI_c (by omega), show lpH s 22 y 12 n = s 12 n by rw [lpH_o s 22 y (by decide) (by decide)]]
                      refine ab_ck ok_La_partOf rfl rfl (by rw [nI_t (by omega)]; omega) ?_
                      show ab_Z m_La_partOf _ _ _ 84 [_, _, _, _, _, _, _, _] [] _
                      rw [nI_c (by omega), lpH_up s 22 y y.2.1 (y.2.1 + 1)]
                      refine ab_go ok_La_partOf 4 rfl ?_
                      show ab_Z m_La_partOf _ _ _ 32 [_, _, _, _, _, _, _, _] [] _
                      rw [← nI_succ y.2.1]
                      exact ih
              · intro h4
                show ab_Z m_La_partOf _ _ _ 54 [_, _, _, _, _, _, _, _] [] _
                exact absurd (nI_neg (n := 268 + n) (by omega) (by omega)) h4
            · obtain ⟨o1, o3, o2⟩ := hoj
              obtain ⟨n1, n2⟩ := enc_neg (k := k + 2) (n := n) (by omega) o2
              refine ab_br ok_La_partOf rfl rfl ?_ ?_
              · intro h4
                show ab_Z m_La_partOf _ _ _ 66 [_, _, _, _, _, _, _, _] [] _
                refine ab_go ok_La_partOf 1 rfl ?_
                show ab_Z m_La_partOf _ _ _ 67 [_, _, _, _, _, _, _, _] [_] _
                refine ab_br ok_La_partOf rfl rfl ?_ ?_
                · intro h5
                  show ab_Z m_La_partOf _ _ _ 86 [_, _, _, _, _, _, _, _] [] _
                  refine ab_go ok_La_partOf 2 rfl ?_
                  show ab_Z m_La_partOf _ _ _ 88 [_, _, _, _, _, _, _, _] [_, _] _
                  refine ab_br ok_La_partOf rfl rfl ?_ ?_
                  · intro h6
                    show ab_Z m_La_partOf _ _ _ 117 [_, _, _, _, _, _, _, _] [] _
                    exact absurd h6 (by rw [L2]; exact nI_nlt o1 (by omega))
                  · intro h6
                    show ab_Z m_La_partOf _ _ _ 89 [_, _, _, _, _, _, _, _] [] _
                    refine ab_go ok_La_partOf 4 rfl ?_
                    show ab_Z m_La_partOf _ _ _ 93 [_, _, _, _, _, _, _, _] [_, _] _
                    refine ab_br ok_La_partOf rfl rfl ?_ ?_
                    · intro h7
                      show ab_Z m_La_partOf _ _ _ 117 [_, _, _, _, _, _, _, _] [] _
                      exact absurd h7 (show ¬ nI 15 < nI y.2.1 from nI_nlt o3 (by decide))
                    · intro h7
                      show ab_Z m_La_partOf _ _ _ 94 [_, _, _, _, _, _, _, _] [] _
                      refine ab_go ok_La_partOf 13 rfl ?_
                      show ab_Z m_La_partOf _ _ _ 107 [_, _, _, _, _, _, _, _] [_, _, _, _, _, _] _
                      rw [L2, pk_sub o1]
                      refine ab_ck ok_La_partOf rfl rfl (by rw [nI_t (by omega)]; omega) ?_
                      show ab_Z m_La_partOf _ _ _ 108 [_, _, _, _, _, _, _, _] [_, _, _, _, _] _
                      refine ab_go ok_La_partOf 5 rfl ?_
                      show ab_Z m_La_partOf _ _ _ 113 [_, _, _, _, _, _, _, _] [_, _, _, _, _, _, _] _
                      rw [L1, pk_sub (show 1 ≤ y.2.1 by omega)]
                      refine ab_ck ok_La_partOf rfl rfl (by rw [nI_t (by omega)]; omega) ?_
                      show ab_Z m_La_partOf _ _ _ 114 [_, _, _, _, _, _, _, _] [_, _, _, _, _, _] _
                      rw [nI_c (by omega), nI_c (by omega), lpH_st s 22 y (y.2.1 - 2), lpH_st s 22 y (y.2.1 - 1)]
                      refine ab_cl ok_La_partOf rfl [_, _, _, _] [_, _] rfl ⟨_, _, rfl, rfl, Or.inl ⟨_, _, rfl, rfl⟩⟩ (Nat.le_of_ble_eq_true rfl) (t_La_joined_22 d fm X s t y (k := k + 2) (by omega) o2 n _ _ _ rfl) ?_
                      rintro _ _ ⟨rfl, rfl⟩
                      show ab_Z m_La_partOf _ _ _ 115 [_, _, _, _, _, _, _, _] [_, _, _] _
                      refine ab_ck ok_La_partOf rfl rfl (by rw [nI_t (by omega)]; omega) ?_
                      show ab_Z m_La_partOf _ _ _ 116 [_, _, _, _, _, _, _, _] [] _
                      rw [nI_c (by omega), lpH_up s 22 _ (y.2.1 - 2) (y.2.1 - 1)]
                      refine ab_go ok_La_partOf 3 rfl ?_
                      show ab_Z m_La_partOf _ _ _ 32 [_, _, _, _, _, _, _, _] [] _
                      rw [sb_m1 (show 0 < y.2.1 by omega)]
                      exact ih
                · intro h5
                  show ab_Z m_La_partOf _ _ _ 68 [_, _, _, _, _, _, _, _] [] _
                  exact absurd n2 h5
              · intro h4
                show ab_Z m_La_partOf _ _ _ 54 [_, _, _, _, _, _, _, _] [] _
                exact absurd n1 h4
  refine ab_T_of (M := m_La_partOf) rfl rfl (Nat.le_of_ble_eq_true rfl) ?_
  show ab_Z m_La_partOf _ _ _ 0 [_, _, _, _, _, _, _, _] [] _
  refine ab_go ok_La_partOf 1 rfl ?_
  show ab_Z m_La_partOf _ _ _ 1 [_, _, _, _, _, _, _, _] [_] _
  refine ab_br ok_La_partOf rfl rfl ?_ ?_
  · intro h1
    show ab_Z m_La_partOf _ _ _ 12 [_, _, _, _, _, _, _, _] [] _
    exact absurd h1 (nI_l0 (by omega))
  · intro h1
    show ab_Z m_La_partOf _ _ _ 2 [_, _, _, _, _, _, _, _] [] _
    refine ab_go ok_La_partOf 4 rfl ?_
    show ab_Z m_La_partOf _ _ _ 6 [_, _, _, _, _, _, _, _] [_, _] _
    refine ab_br ok_La_partOf rfl rfl ?_ ?_
    · intro h2
      show ab_Z m_La_partOf _ _ _ 12 [_, _, _, _, _, _, _, _] [] _
      exact absurd h2 (lp_in (N := 13) (by decide) hi)
    · intro h2
      show ab_Z m_La_partOf _ _ _ 7 [_, _, _, _, _, _, _, _] [] _
      refine ab_go ok_La_partOf 3 rfl ?_
      show ab_Z m_La_partOf _ _ _ 10 [_, _, _, _, _, _, _, _] [_, _] _
      refine ab_ck ok_La_partOf rfl rfl (by rw [nI_t (by omega)]; omega) ?_
      show ab_Z m_La_partOf _ _ _ 11 [_, _, _, _, _, _, _, _] [_] _
      rw [nI_c (by omega), show lpH s 22 z 24 i = nI b by rw [lpH_o s 22 z (by decide) (by decide)]; exact hE]
      refine ab_go ok_La_partOf 5 rfl ?_
      show ab_Z m_La_partOf _ _ _ 17 [_, _, _, _, _, _, _, _] [_] _
      refine ab_br ok_La_partOf rfl rfl ?_ ?_
      · intro h3
        show ab_Z m_La_partOf _ _ _ 30 [_, _, _, _, _, _, _, _] [] _
        refine ab_go ok_La_partOf 2 rfl ?_
        show ab_Z m_La_partOf _ _ _ 32 [_, _, _, _, _, _, _, _] [] _
        obtain rfl : i = 0 := by
          have := i_leR (z := 0) rfl h3
          rw [nI_t (by omega)] at this
          omega
        obtain rfl : a = 0 := hF
        exact loop
      · intro h3
        show ab_Z m_La_partOf _ _ _ 18 [_, _, _, _, _, _, _, _] [] _
        have hi0 : i ≠ 0 := fun z => h3 (by subst z; decide)
        rw [if_neg hi0] at hF
        refine ab_go ok_La_partOf 4 rfl ?_
        show ab_Z m_La_partOf _ _ _ 22 [_, _, _, _, _, _, _, _] [_, _] _
        refine ab_br ok_La_partOf rfl rfl ?_ ?_
        · intro h4
          show ab_Z m_La_partOf _ _ _ 30 [_, _, _, _, _, _, _, _] [] _
          exact absurd h4 (show ¬ nI 13 < nI i from nI_nlt (by omega) (by decide))
        · intro h4
          show ab_Z m_La_partOf _ _ _ 23 [_, _, _, _, _, _, _, _] [] _
          refine ab_go ok_La_partOf 5 rfl ?_
          show ab_Z m_La_partOf _ _ _ 28 [_, _, _, _, _, _, _, _] [_, _] _
          rw [L1, pk_sub (show 1 ≤ i by omega)]
          refine ab_ck ok_La_partOf rfl rfl (by rw [nI_t (by omega)]; omega) ?_
          show ab_Z m_La_partOf _ _ _ 29 [_, _, _, _, _, _, _, _] [_] _
          rw [nI_c (by omega), show lpH s 22 z 24 (i - 1) = nI a by rw [lpH_o s 22 z (by decide) (by decide)]; exact hF]
          refine ab_go ok_La_partOf 2 rfl ?_
          show ab_Z m_La_partOf _ _ _ 32 [_, _, _, _, _, _, _, _] [] _
          exact loop
theorem t_La_partOf_26 (z : Stk) {a b i : Nat} (Q : List Ins) (hz : z.2.1 = 0) (hi : i < 13) (hE : s 28 i = nI b) (hF : if i = 0 then a = 0 else s 28 (i - 1) = nI a) (hb : b = a + Q.length) (hb4 : b ≤ 400) (hQ : ∀ j q, Q[j]? = some q → s 27 (a + j) = encI q) (hok : okQ Q 0) : ab_T g_La_partOf (d + 1) (0, 0) [.ref 26, .int (nI i), .ref 12] (HA fm X (lpH s 26 z) t) (PI ((runI (s 12) z Q).1 0) (HA fm X (lpH s 26 (runI (s 12) z Q)) t)) := by
  have loop : ab_Z m_La_partOf (d + 1) (0, 0) (PI ((runI (s 12) z Q).1 0) (HA fm X (lpH s 26 (runI (s 12) z Q)) t)) 32 [some (.ref 26), none, some (.ref 12), some (.int (nI b)), some (.int 0), some (.int (nI a)), none, none] [] (HA fm X (lpH s 26 z) t) := by
    have h0 : (runI (s 12) z (Q.take 0)) = z := rfl
    have := lp_dn Q.length (fun j => ab_Z m_La_partOf (d + 1) (0, 0) (PI ((runI (s 12) z Q).1 0) (HA fm X (lpH s 26 (runI (s 12) z Q)) t)) 32 [some (.ref 26), none, some (.ref 12), some (.int (nI b)), some (.int (nI (runI (s 12) z (Q.take j)).2.1)), some (.int (nI (a + j))), none, none] [] (HA fm X (lpH s 26 (runI (s 12) z (Q.take j))) t)) ?_ ?_
    · rw [h0, hz, Nat.add_zero] at this
      exact this
    · rw [List.take_length, ← hb]
      refine ab_go ok_La_partOf 1 rfl ?_
      show ab_Z m_La_partOf _ _ _ 33 [_, _, _, _, _, _, _, _] [_] _
      refine ab_br ok_La_partOf rfl rfl ?_ ?_
      · intro h1
        show ab_Z m_La_partOf _ _ _ 119 [_, _, _, _, _, _, _, _] [] _
        exact absurd h1 (nI_l0 (by omega))
      · intro h1
        show ab_Z m_La_partOf _ _ _ 34 [_, _, _, _, _, _, _, _] [] _
        refine ab_go ok_La_partOf 2 rfl ?_
        show ab_Z m_La_partOf _ _ _ 36 [_, _, _, _, _, _, _, _] [_, _] _
        refine ab_br ok_La_partOf rfl rfl ?_ ?_
        · intro h2
          show ab_Z m_La_partOf _ _ _ 119 [_, _, _, _, _, _, _, _] [] _
          refine ab_go ok_La_partOf 3 rfl ?_
          show ab_Z m_La_partOf _ _ _ 122 [_, _, _, _, _, _, _, _] [_, _] _
          refine ab_go ok_La_partOf 1 rfl ?_
          show ab_Z m_La_partOf _ _ _ 123 [_, _, _, _, _, _, _, _] [_] _
          exact ab_rI ok_La_partOf rfl (⟨by rw [show lpH s 26 (runI (s 12) z Q) 29 (0 : Int32).toNatClampNeg = (runI (s 12) z Q).1 0 from lpH_st s 26 _ 0], rfl⟩)
        · intro h2
          show ab_Z m_La_partOf _ _ _ 37 [_, _, _, _, _, _, _, _] [] _
          exact absurd (lp_out b) h2
    · intro j hj ih
      obtain ⟨q, hq⟩ : ∃ q, Q[j]? = some q := ⟨Q[j], List.getElem?_eq_getElem hj⟩
      have hoj := okQ_at (s 12) Q z (by rw [hz]; exact hok) j q hq
      rw [runI_succ (s 12) z Q hq, ← Nat.add_assoc, nI_succ] at ih
      have hv := hQ j q hq
      generalize runI (s 12) z (List.take j Q) = y at ih hoj ⊢
      have ec : lpH s 26 y 27 (nI (a + j)).toNatClampNeg = encI q := by
        rw [nI_c (by omega), lpH_o s 26 y (by decide) (by decide)]
        exact hv
      refine ab_go ok_La_partOf 1 rfl ?_
      show ab_Z m_La_partOf _ _ _ 33 [_, _, _, _, _, _, _, _] [_] _
      refine ab_br ok_La_partOf rfl rfl ?_ ?_
      · intro h1
        show ab_Z m_La_partOf _ _ _ 119 [_, _, _, _, _, _, _, _] [] _
        exact absurd h1 (nI_l0 (by omega))
      · intro h1
        show ab_Z m_La_partOf _ _ _ 34 [_, _, _, _, _, _, _, _] [] _
        refine ab_go ok_La_partOf 2 rfl ?_
        show ab_Z m_La_partOf _ _ _ 36 [_, _, _, _, _, _, _, _] [_, _] _
        refine ab_br ok_La_partOf rfl rfl ?_ ?_
        · intro h2
          show ab_Z m_La_partOf _ _ _ 119 [_, _, _, _, _, _, _, _] [] _
          exact absurd h2 (lp_in (by omega) (by omega))
        · intro h2
          show ab_Z m_La_partOf _ _ _ 37 [_, _, _, _, _, _, _, _] [] _
          refine ab_go ok_La_partOf 4 rfl ?_
          show ab_Z m_La_partOf _ _ _ 41 [_, _, _, _, _, _, _, _] [_, _] _
          refine ab_br ok_La_partOf rfl rfl ?_ ?_
          · intro h3
            show ab_Z m_La_partOf _ _ _ 119 [_, _, _, _, _, _, _, _] [] _
            exact absurd h3 (lp_in (N := 400) (by decide) (by omega))
          · intro h3
            show ab_Z m_La_partOf _ _ _ 42 [_, _, _, _, _, _, _, _] [] _
            refine ab_go ok_La_partOf 3 rfl ?_
            show ab_Z m_La_partOf _ _ _ 45 [_, _, _, _, _, _, _, _] [_, _] _
            refine ab_ck ok_La_partOf rfl rfl (by rw [nI_t (by omega)]; omega) ?_
            show ab_Z m_La_partOf _ _ _ 46 [_, _, _, _, _, _, _, _] [_] _
            rw [ec]
            refine ab_go ok_La_partOf 7 rfl ?_
            show ab_Z m_La_partOf _ _ _ 53 [_, _, _, _, _, _, _, _] [_] _
            obtain ⟨k, n⟩ := q
            have hk3 : k = 0 ∨ k = 1 ∨ ∃ k2, k = k2 + 2 := by
              rcases Nat.lt_or_ge k 2 with h9 | h9
              · omega
              · exact Or.inr (Or.inr ⟨k - 2, by omega⟩)
            rcases hk3 with rfl | rfl | ⟨k, rfl⟩
            · obtain ⟨o1, o2⟩ := hoj
              refine ab_br ok_La_partOf rfl rfl ?_ ?_
              · intro h4
                show ab_Z m_La_partOf _ _ _ 66 [_, _, _, _, _, _, _, _] [] _
                exact absurd h4 (nI_l0 (n := n) (by omega))
              · intro h4
                show ab_Z m_La_partOf _ _ _ 54 [_, _, _, _, _, _, _, _] [] _
                refine ab_go ok_La_partOf 4 rfl ?_
                show ab_Z m_La_partOf _ _ _ 58 [_, _, _, _, _, _, _, _] [_, _] _
                refine ab_br ok_La_partOf rfl rfl ?_ ?_
                · intro h5
                  show ab_Z m_La_partOf _ _ _ 66 [_, _, _, _, _, _, _, _] [] _
                  exact absurd h5 (lp_in (N := 15) (by decide) o1)
                · intro h5
                  show ab_Z m_La_partOf _ _ _ 59 [_, _, _, _, _, _, _, _] [] _
                  refine ab_go ok_La_partOf 4 rfl ?_
                  show ab_Z m_La_partOf _ _ _ 63 [_, _, _, _, _, _, _, _] [_, _, _] _
                  refine ab_ck ok_La_partOf rfl rfl (by rw [nI_t (by omega)]; omega) ?_
                  show ab_Z m_La_partOf _ _ _ 64 [_, _, _, _, _, _, _, _] [] _
                  rw [nI_c (by omega), lpH_up s 26 y y.2.1 (y.2.1 + 1)]
                  refine ab_go ok_La_partOf 4 rfl ?_
                  show ab_Z m_La_partOf _ _ _ 32 [_, _, _, _, _, _, _, _] [] _
                  rw [← nI_succ y.2.1]
                  exact ih
            · obtain ⟨o1, o2⟩ := hoj
              refine ab_br ok_La_partOf rfl rfl ?_ ?_
              · intro h4
                show ab_Z m_La_partOf _ _ _ 66 [_, _, _, _, _, _, _, _] [] _
                have en : -encI (1, n) - 268 = nI n := by
                  show -(-nI (268 + n)) - 268 = nI n
                  rw [nI_nn, L268, pk_sub (by omega), Nat.add_sub_cancel_left]
                rw [en]
                refine ab_go ok_La_partOf 1 rfl ?_
                show ab_Z m_La_partOf _ _ _ 67 [_, _, _, _, _, _, _, _] [_] _
                refine ab_br ok_La_partOf rfl rfl ?_ ?_
                · intro h5
                  show ab_Z m_La_partOf _ _ _ 86 [_, _, _, _, _, _, _, _] [] _
                  exact absurd h5 (nI_l0 (by omega))
                · intro h5
                  show ab_Z m_La_partOf _ _ _ 68 [_, _, _, _, _, _, _, _] [] _
                  refine ab_go ok_La_partOf 3 rfl ?_
                  show ab_Z m_La_partOf _ _ _ 71 [_, _, _, _, _, _, _, _] [_, _] _
                  refine ab_br ok_La_partOf rfl rfl ?_ ?_
                  · intro h6
                    show ab_Z m_La_partOf _ _ _ 86 [_, _, _, _, _, _, _, _] [] _
                    exact absurd h6 (lp_in (N := 9) (by decide) o2)
                  · intro h6
                    show ab_Z m_La_partOf _ _ _ 72 [_, _, _, _, _, _, _, _] [] _
                    refine ab_go ok_La_partOf 4 rfl ?_
                    show ab_Z m_La_partOf _ _ _ 76 [_, _, _, _, _, _, _, _] [_, _] _
                    refine ab_br ok_La_partOf rfl rfl ?_ ?_
                    · intro h7
                      show ab_Z m_La_partOf _ _ _ 86 [_, _, _, _, _, _, _, _] [] _
                      exact absurd h7 (lp_in (N := 15) (by decide) o1)
                    · intro h7
                      show ab_Z m_La_partOf _ _ _ 77 [_, _, _, _, _, _, _, _] [] _
                      refine ab_go ok_La_partOf 5 rfl ?_
                      show ab_Z m_La_partOf _ _ _ 82 [_, _, _, _, _, _, _, _] [_, _, _, _] _
                      refine ab_ck ok_La_partOf rfl rfl (by rw [nI_t (by omega)]; omega) ?_
                      show ab_Z m_La_partOf _ _ _ 83 [_, _, _, _, _, _, _, _] [_, _, _] _
                      rw [nI_c (by omega), show lpH s 26 y 12 n = s 12 n by rw [lpH_o s 26 y (by decide) (by decide)]]
                      refine ab_ck ok_La_partOf rfl rfl (by rw [nI_t (by omega)]; omega) ?_
                      show ab_Z m_La_partOf _ _ _ 84 [_, _, _, _, _, _, _, _] [] _
                      rw [nI_c (by omega), lpH_up s 26 y y.2.1 (y.2.1 + 1)]
                      refine ab_go ok_La_partOf 4 rfl ?_
                      show ab_Z m_La_partOf _ _ _ 32 [_, _, _, _, _, _, _, _] [] _
                      rw [← nI_succ y.2.1]
                      exact ih
              · intro h4
                show ab_Z m_La_partOf _ _ _ 54 [_, _, _, _, _, _, _, _] [] _
                exact absurd (nI_neg (n := 268 + n) (by omega) (by omega)) h4
            · obtain ⟨o1, o3, o2⟩ := hoj
              obtain ⟨n1, n2⟩ := enc_neg (k := k + 2) (n := n) (by omega) o2
              refine ab_br ok_La_partOf rfl rfl ?_ ?_
              · intro h4
                show ab_Z m_La_partOf _ _ _ 66 [_, _, _, _, _, _, _, _] [] _
                refine ab_go ok_La_partOf 1 rfl ?_
                show ab_Z m_La_partOf _ _ _ 67 [_, _, _, _, _, _, _, _] [_] _
                refine ab_br ok_La_partOf rfl rfl ?_ ?_
                · intro h5
                  show ab_Z m_La_partOf _ _ _ 86 [_, _, _, _, _, _, _, _] [] _
                  refine ab_go ok_La_partOf 2 rfl ?_
                  show ab_Z m_La_partOf _ _ _ 88 [_, _, _, _, _, _, _, _] [_, _] _
                  refine ab_br ok_La_partOf rfl rfl ?_ ?_
                  · intro h6
                    show ab_Z m_La_partOf _ _ _ 117 [_, _, _, _, _, _, _, _] [] _
                    exact absurd h6 (by rw [L2]; exact nI_nlt o1 (by omega))
                  · intro h6
                    show ab_Z m_La_partOf _ _ _ 89 [_, _, _, _, _, _, _, _] [] _
                    refine ab_go ok_La_partOf 4 rfl ?_
                    show ab_Z m_La_partOf _ _ _ 93 [_, _, _, _, _, _, _, _] [_, _] _
                    refine ab_br ok_La_partOf rfl rfl ?_ ?_
                    · intro h7
                      show ab_Z m_La_partOf _ _ _ 117 [_, _, _, _, _, _, _, _] [] _
                      exact absurd h7 (show ¬ nI 15 < nI y.2.1 from nI_nlt o3 (by decide))
                    · intro h7
                      show ab_Z m_La_partOf _ _ _ 94 [_, _, _, _, _, _, _, _] [] _
                      refine ab_go ok_La_partOf 13 rfl ?_
                      show ab_Z m_La_partOf _ _ _ 107 [_, _, _, _, _, _, _, _] [_, _, _, _, _, _] _
                      rw [L2, pk_sub o1]
                      refine ab_ck ok_La_partOf rfl rfl (by rw [nI_t (by omega)]; omega) ?_
                      show ab_Z m_La_partOf _ _ _ 108 [_, _, _, _, _, _, _, _] [_, _, _, _, _] _
                      refine ab_go ok_La_partOf 5 rfl ?_
                      show ab_Z m_La_partOf _ _ _ 113 [_, _, _, _, _, _, _, _] [_, _, _, _, _, _, _] _
                      rw [L1, pk_sub (show 1 ≤ y.2.1 by omega)]
                      refine ab_ck ok_La_partOf rfl rfl (by rw [nI_t (by omega)]; omega) ?_
                      show ab_Z m_La_partOf _ _ _ 114 [_, _, _, _, _, _, _, _] [_, _, _, _, _, _] _
                      rw [nI_c (by omega), nI_c (by omega), lpH_st s 26 y (y.2.1 - 2), lpH_st s 26 y (y.2.1 - 1)]
                      refine ab_cl ok_La_partOf rfl [_, _, _, _] [_, _] rfl ⟨_, _, rfl, rfl, Or.inl ⟨_, _, rfl, rfl⟩⟩ (Nat.le_of_ble_eq_true rfl) (t_La_joined_26 d fm X s t y (k := k + 2) (by omega) o2 n _ _ _ rfl) ?_
                      rintro _ _ ⟨rfl, rfl⟩
                      show ab_Z m_La_partOf _ _ _ 115 [_, _, _, _, _, _, _, _] [_, _, _] _
                      refine ab_ck ok_La_partOf rfl rfl (by rw [nI_t (by omega)]; omega) ?_
                      show ab_Z m_La_partOf _ _ _ 116 [_, _, _, _, _, _, _, _] [] _
                      rw [nI_c (by omega), lpH_up s 26 _ (y.2.1 - 2) (y.2.1 - 1)]
                      refine ab_go ok_La_partOf 3 rfl ?_
                      show ab_Z m_La_partOf _ _ _ 32 [_, _, _, _, _, _, _, _] [] _
                      rw [sb_m1 (show 0 < y.2.1 by omega)]
                      exact ih
                · intro h5
                  show ab_Z m_La_partOf _ _ _ 68 [_, _, _, _, _, _, _, _] [] _
                  exact absurd n2 h5
              · intro h4
                show ab_Z m_La_partOf _ _ _ 54 [_, _, _, _, _, _, _, _] [] _
                exact absurd n1 h4
  refine ab_T_of (M := m_La_partOf) rfl rfl (Nat.le_of_ble_eq_true rfl) ?_
  show ab_Z m_La_partOf _ _ _ 0 [_, _, _, _, _, _, _, _] [] _
  refine ab_go ok_La_partOf 1 rfl ?_
  show ab_Z m_La_partOf _ _ _ 1 [_, _, _, _, _, _, _, _] [_] _
  refine ab_br ok_La_partOf rfl rfl ?_ ?_
  · intro h1
    show ab_Z m_La_partOf _ _ _ 12 [_, _, _, _, _, _, _, _] [] _
    exact absurd h1 (nI_l0 (by omega))
  · intro h1
    show ab_Z m_La_partOf _ _ _ 2 [_, _, _, _, _, _, _, _] [] _
    refine ab_go ok_La_partOf 4 rfl ?_
    show ab_Z m_La_partOf _ _ _ 6 [_, _, _, _, _, _, _, _] [_, _] _
    refine ab_br ok_La_partOf rfl rfl ?_ ?_
    · intro h2
      show ab_Z m_La_partOf _ _ _ 12 [_, _, _, _, _, _, _, _] [] _
      exact absurd h2 (lp_in (N := 13) (by decide) hi)
    · intro h2
      show ab_Z m_La_partOf _ _ _ 7 [_, _, _, _, _, _, _, _] [] _
      refine ab_go ok_La_partOf 3 rfl ?_
      show ab_Z m_La_partOf _ _ _ 10 [_, _, _, _, _, _, _, _] [_, _] _
      refine ab_ck ok_La_partOf rfl rfl (by rw [nI_t (by omega)]; omega) ?_
      show ab_Z m_La_partOf _ _ _ 11 [_, _, _, _, _, _, _, _] [_] _
      rw [nI_c (by omega), show lpH s 26 z 28 i = nI b by rw [lpH_o s 26 z (by decide) (by decide)]; exact hE]
      refine ab_go ok_La_partOf 5 rfl ?_
      show ab_Z m_La_partOf _ _ _ 17 [_, _, _, _, _, _, _, _] [_] _
      refine ab_br ok_La_partOf rfl rfl ?_ ?_
      · intro h3
        show ab_Z m_La_partOf _ _ _ 30 [_, _, _, _, _, _, _, _] [] _
        refine ab_go ok_La_partOf 2 rfl ?_
        show ab_Z m_La_partOf _ _ _ 32 [_, _, _, _, _, _, _, _] [] _
        obtain rfl : i = 0 := by
          have := i_leR (z := 0) rfl h3
          rw [nI_t (by omega)] at this
          omega
        obtain rfl : a = 0 := hF
        exact loop
      · intro h3
        show ab_Z m_La_partOf _ _ _ 18 [_, _, _, _, _, _, _, _] [] _
        have hi0 : i ≠ 0 := fun z => h3 (by subst z; decide)
        rw [if_neg hi0] at hF
        refine ab_go ok_La_partOf 4 rfl ?_
        show ab_Z m_La_partOf _ _ _ 22 [_, _, _, _, _, _, _, _] [_, _] _
        refine ab_br ok_La_partOf rfl rfl ?_ ?_
        · intro h4
          show ab_Z m_La_partOf _ _ _ 30 [_, _, _, _, _, _, _, _] [] _
          exact absurd h4 (show ¬ nI 13 < nI i from nI_nlt (by omega) (by decide))
        · intro h4
          show ab_Z m_La_partOf _ _ _ 23 [_, _, _, _, _, _, _, _] [] _
          refine ab_go ok_La_partOf 5 rfl ?_
          show ab_Z m_La_partOf _ _ _ 28 [_, _, _, _, _, _, _, _] [_, _] _
          rw [L1, pk_sub (show 1 ≤ i by omega)]
          refine ab_ck ok_La_partOf rfl rfl (by rw [nI_t (by omega)]; omega) ?_
          show ab_Z m_La_partOf _ _ _ 29 [_, _, _, _, _, _, _, _] [_] _
          rw [nI_c (by omega), show lpH s 26 z 28 (i - 1) = nI a by rw [lpH_o s 26 z (by decide) (by decide)]; exact hF]
          refine ab_go ok_La_partOf 2 rfl ?_
          show ab_Z m_La_partOf _ _ _ 32 [_, _, _, _, _, _, _, _] [] _
          exact loop
theorem t_La_partOf_30 (z : Stk) {a b i : Nat} (Q : List Ins) (hz : z.2.1 = 0) (hi : i < 13) (hE : s 32 i = nI b) (hF : if i = 0 then a = 0 else s 32 (i - 1) = nI a) (hb : b = a + Q.length) (hb4 : b ≤ 400) (hQ : ∀ j q, Q[j]? = some q → s 31 (a + j) = encI q) (hok : okQ Q 0) : ab_T g_La_partOf (d + 1) (0, 0) [.ref 30, .int (nI i), .ref 12] (HA fm X (lpH s 30 z) t) (PI ((runI (s 12) z Q).1 0) (HA fm X (lpH s 30 (runI (s 12) z Q)) t)) := by
  have loop : ab_Z m_La_partOf (d + 1) (0, 0) (PI ((runI (s 12) z Q).1 0) (HA fm X (lpH s 30 (runI (s 12) z Q)) t)) 32 [some (.ref 30), none, some (.ref 12), some (.int (nI b)), some (.int 0), some (.int (nI a)), none, none] [] (HA fm X (lpH s 30 z) t) := by
    have h0 : (runI (s 12) z (Q.take 0)) = z := rfl
    have := lp_dn Q.length (fun j => ab_Z m_La_partOf (d + 1) (0, 0) (PI ((runI (s 12) z Q).1 0) (HA fm X (lpH s 30 (runI (s 12) z Q)) t)) 32 [some (.ref 30), none, some (.ref 12), some (.int (nI b)), some (.int (nI (runI (s 12) z (Q.take j)).2.1)), some (.int (nI (a + j))), none, none] [] (HA fm X (lpH s 30 (runI (s 12) z (Q.take j))) t)) ?_ ?_
    · rw [h0, hz, Nat.add_zero] at this
      exact this
    · rw [List.take_length, ← hb]
      refine ab_go ok_La_partOf 1 rfl ?_
      show ab_Z m_La_partOf _ _ _ 33 [_, _, _, _, _, _, _, _] [_] _
      refine ab_br ok_La_partOf rfl rfl ?_ ?_
      · intro h1
        show ab_Z m_La_partOf _ _ _ 119 [_, _, _, _, _, _, _, _] [] _
        exact absurd h1 (nI_l0 (by omega))
      · intro h1
        show ab_Z m_La_partOf _ _ _ 34 [_, _, _, _, _, _, _, _] [] _
        refine ab_go ok_La_partOf 2 rfl ?_
        show ab_Z m_La_partOf _ _ _ 36 [_, _, _, _, _, _, _, _] [_, _] _
        refine ab_br ok_La_partOf rfl rfl ?_ ?_
        · intro h2
          show ab_Z m_La_partOf _ _ _ 119 [_, _, _, _, _, _, _, _] [] _
          refine ab_go ok_La_partOf 3 rfl ?_
          show ab_Z m_La_partOf _ _ _ 122 [_, _, _, _, _, _, _, _] [_, _] _
          refine ab_go ok_La_partOf 1 rfl ?_
          show ab_Z m_La_partOf _ _ _ 123 [_, _, _, _, _, _, _, _] [_] _
          exact ab_rI ok_La_partOf rfl (⟨by rw [show lpH s 30 (runI (s 12) z Q) 33 (0 : Int32).toNatClampNeg = (runI (s 12) z Q).1 0 from lpH_st s 30 _ 0], rfl⟩)
        · intro h2
          show ab_Z m_La_partOf _ _ _ 37 [_, _, _, _, _, _, _, _] [] _
          exact absurd (lp_out b) h2
    · intro j hj ih
      obtain ⟨q, hq⟩ : ∃ q, Q[j]? = some q := ⟨Q[j], List.getElem?_eq_getElem hj⟩
      have hoj := okQ_at (s 12) Q z (by rw [hz]; exact hok) j q hq
      rw [runI_succ (s 12) z Q hq, ← Nat.add_assoc, nI_succ] at ih
      have hv := hQ j q hq
      generalize runI (s 12) z (List.take j Q) = y at ih hoj ⊢
      have ec : lpH s 30 y 31 (nI (a + j)).toNatClampNeg = encI q := by
        rw [nI_c (by omega), lpH_o s 30 y (by decide) (by decide)]
        exact hv
      refine ab_go ok_La_partOf 1 rfl ?_
      show ab_Z m_La_partOf _ _ _ 33 [_, _, _, _, _, _, _, _] [_] _
      refine ab_br ok_La_partOf rfl rfl ?_ ?_
      · intro h1
        show ab_Z m_La_partOf _ _ _ 119 [_, _, _, _, _, _, _, _] [] _
        exact absurd h1 (nI_l0 (by omega))
      · intro h1
        show ab_Z m_La_partOf _ _ _ 34 [_, _, _, _, _, _, _, _] [] _
        refine ab_go ok_La_partOf 2 rfl ?_
        show ab_Z m_La_partOf _ _ _ 36 [_, _, _, _, _, _, _, _] [_, _] _
        refine ab_br ok_La_partOf rfl rfl ?_ ?_
        · intro h2
          show ab_Z m_La_partOf _ _ _ 119 [_, _, _, _, _, _, _, _] [] _
          exact absurd h2 (lp_in (by omega) (by omega))
        · intro h2
          show ab_Z m_La_partOf _ _ _ 37 [_, _, _, _, _, _, _, _] [] _
          refine ab_go ok_La_partOf 4 rfl ?_
          show ab_Z m_La_partOf _ _ _ 41 [_, _, _, _, _, _, _, _] [_, _] _
          refine ab_br ok_La_partOf rfl rfl ?_ ?_
          · intro h3
            show ab_Z m_La_partOf _ _ _ 119 [_, _, _, _, _, _, _, _] [] _
            exact absurd h3 (lp_in (N := 400) (by decide) (by omega))
          · intro h3
            show ab_Z m_La_partOf _ _ _ 42 [_, _, _, _, _, _, _, _] [] _
            refine ab_go ok_La_partOf 3 rfl ?_
            show ab_Z m_La_partOf _ _ _ 45 [_, _, _, _, _, _, _, _] [_, _] _
            refine ab_ck ok_La_partOf rfl rfl (by rw [nI_t (by omega)]; omega) ?_
            show ab_Z m_La_partOf _ _ _ 46 [_, _, _, _, _, _, _, _] [_] _
            rw [ec]
            refine ab_go ok_La_partOf 7 rfl ?_
            show ab_Z m_La_partOf _ _ _ 53 [_, _, _, _, _, _, _, _] [_] _
            obtain ⟨k, n⟩ := q
            have hk3 : k = 0 ∨ k = 1 ∨ ∃ k2, k = k2 + 2 := by
              rcases Nat.lt_or_ge k 2 with h9 | h9
              · omega
              · exact Or.inr (Or.inr ⟨k - 2, by omega⟩)
            rcases hk3 with rfl | rfl | ⟨k, rfl⟩
            · obtain ⟨o1, o2⟩ := hoj
              refine ab_br ok_La_partOf rfl rfl ?_ ?_
              · intro h4
                show ab_Z m_La_partOf _ _ _ 66 [_, _, _, _, _, _, _, _] [] _
                exact absurd h4 (nI_l0 (n := n) (by omega))
              · intro h4
                show ab_Z m_La_partOf _ _ _ 54 [_, _, _, _, _, _, _, _] [] _
                refine ab_go ok_La_partOf 4 rfl ?_
                show ab_Z m_La_partOf _ _ _ 58 [_, _, _, _, _, _, _, _] [_, _] _
                refine ab_br ok_La_partOf rfl rfl ?_ ?_
                · intro h5
                  show ab_Z m_La_partOf _ _ _ 66 [_, _, _, _, _, _, _, _] [] _
                  exact absurd h5 (lp_in (N := 15) (by decide) o1)
                · intro h5
                  show ab_Z m_La_partOf _ _ _ 59 [_, _, _, _, _, _, _, _] [] _
                  refine ab_go ok_La_partOf 4 rfl ?_
                  show ab_Z m_La_partOf _ _ _ 63 [_, _, _, _, _, _, _, _] [_, _, _] _
                  refine ab_ck ok_La_partOf rfl rfl (by rw [nI_t (by omega)]; omega) ?_
                  show ab_Z m_La_partOf _ _ _ 64 [_, _, _, _, _, _, _, _] [] _
                  rw [nI_c (by omega), lpH_up s 30 y y.2.1 (y.2.1 + 1)]
                  refine ab_go ok_La_partOf 4 rfl ?_
                  show ab_Z m_La_partOf _ _ _ 32 [_, _, _, _, _, _, _, _] [] _
                  rw [← nI_succ y.2.1]
                  exact ih
            · obtain ⟨o1, o2⟩ := hoj
              refine ab_br ok_La_partOf rfl rfl ?_ ?_
              · intro h4
                show ab_Z m_La_partOf _ _ _ 66 [_, _, _, _, _, _, _, _] [] _
                have en : -encI (1, n) - 268 = nI n := by
                  show -(-nI (268 + n)) - 268 = nI n
                  rw [nI_nn, L268, pk_sub (by omega), Nat.add_sub_cancel_left]
                rw [en]
                refine ab_go ok_La_partOf 1 rfl ?_
                show ab_Z m_La_partOf _ _ _ 67 [_, _, _, _, _, _, _, _] [_] _
                refine ab_br ok_La_partOf rfl rfl ?_ ?_
                · intro h5
                  show ab_Z m_La_partOf _ _ _ 86 [_, _, _, _, _, _, _, _] [] _
                  exact absurd h5 (nI_l0 (by omega))
                · intro h5
                  show ab_Z m_La_partOf _ _ _ 68 [_, _, _, _, _, _, _, _] [] _
                  refine ab_go ok_La_partOf 3 rfl ?_
                  show ab_Z m_La_partOf _ _ _ 71 [_, _, _, _, _, _, _, _] [_, _] _
                  refine ab_br ok_La_partOf rfl rfl ?_ ?_
                  · intro h6
                    show ab_Z m_La_partOf _ _ _ 86 [_, _, _, _, _, _, _, _] [] _
                    exact absurd h6 (lp_in (N := 9) (by decide) o2)
                  · intro h6
                    show ab_Z m_La_partOf _ _ _ 72 [_, _, _, _, _, _, _, _] [] _
                    refine ab_go ok_La_partOf 4 rfl ?_
                    show ab_Z m_La_partOf _ _ _ 76 [_, _, _, _, _, _, _, _] [_, _] _
                    refine ab_br ok_La_partOf rfl rfl ?_ ?_
                    · intro h7
                      show ab_Z m_La_partOf _ _ _ 86 [_, _, _, _, _, _, _, _] [] _
                      exact absurd h7 (lp_in (N := 15) (by decide) o1)
                    · intro h7
                      show ab_Z m_La_partOf _ _ _ 77 [_, _, _, _, _, _, _, _] [] _
                      refine ab_go ok_La_partOf 5 rfl ?_
                      show ab_Z m_La_partOf _ _ _ 82 [_, _, _, _, _, _, _, _] [_, _, _, _] _
                      refine ab_ck ok_La_partOf rfl rfl (by rw [nI_t (by omega)]; omega) ?_
                      show ab_Z m_La_partOf _ _ _ 83 [_, _, _, _, _, _, _, _] [_, _, _] _
                      rw [nI_c (by omega), show lpH s 30 y 12 n = s 12 n by rw [lpH_o s 30 y (by decide) (by decide)]]
                      refine ab_ck ok_La_partOf rfl rfl (by rw [nI_t (by omega)]; omega) ?_
                      show ab_Z m_La_partOf _ _ _ 84 [_, _, _, _, _, _, _, _] [] _
                      rw [nI_c (by omega), lpH_up s 30 y y.2.1 (y.2.1 + 1)]
                      refine ab_go ok_La_partOf 4 rfl ?_
                      show ab_Z m_La_partOf _ _ _ 32 [_, _, _, _, _, _, _, _] [] _
                      rw [← nI_succ y.2.1]
                      exact ih
              · intro h4
                show ab_Z m_La_partOf _ _ _ 54 [_, _, _, _, _, _, _, _] [] _
                exact absurd (nI_neg (n := 268 + n) (by omega) (by omega)) h4
            · obtain ⟨o1, o3, o2⟩ := hoj
              obtain ⟨n1, n2⟩ := enc_neg (k := k + 2) (n := n) (by omega) o2
              refine ab_br ok_La_partOf rfl rfl ?_ ?_
              · intro h4
                show ab_Z m_La_partOf _ _ _ 66 [_, _, _, _, _, _, _, _] [] _
                refine ab_go ok_La_partOf 1 rfl ?_
                show ab_Z m_La_partOf _ _ _ 67 [_, _, _, _, _, _, _, _] [_] _
                refine ab_br ok_La_partOf rfl rfl ?_ ?_
                · intro h5
                  show ab_Z m_La_partOf _ _ _ 86 [_, _, _, _, _, _, _, _] [] _
                  refine ab_go ok_La_partOf 2 rfl ?_
                  show ab_Z m_La_partOf _ _ _ 88 [_, _, _, _, _, _, _, _] [_, _] _
                  refine ab_br ok_La_partOf rfl rfl ?_ ?_
                  · intro h6
                    show ab_Z m_La_partOf _ _ _ 117 [_, _, _, _, _, _, _, _] [] _
                    exact absurd h6 (by rw [L2]; exact nI_nlt o1 (by omega))
                  · intro h6
                    show ab_Z m_La_partOf _ _ _ 89 [_, _, _, _, _, _, _, _] [] _
                    refine ab_go ok_La_partOf 4 rfl ?_
                    show ab_Z m_La_partOf _ _ _ 93 [_, _, _, _, _, _, _, _] [_, _] _
                    refine ab_br ok_La_partOf rfl rfl ?_ ?_
                    · intro h7
                      show ab_Z m_La_partOf _ _ _ 117 [_, _, _, _, _, _, _, _] [] _
                      exact absurd h7 (show ¬ nI 15 < nI y.2.1 from nI_nlt o3 (by decide))
                    · intro h7
                      show ab_Z m_La_partOf _ _ _ 94 [_, _, _, _, _, _, _, _] [] _
                      refine ab_go ok_La_partOf 13 rfl ?_
                      show ab_Z m_La_partOf _ _ _ 107 [_, _, _, _, _, _, _, _] [_, _, _, _, _, _] _
                      rw [L2, pk_sub o1]
                      refine ab_ck ok_La_partOf rfl rfl (by rw [nI_t (by omega)]; omega) ?_
                      show ab_Z m_La_partOf _ _ _ 108 [_, _, _, _, _, _, _, _] [_, _, _, _, _] _
                      refine ab_go ok_La_partOf 5 rfl ?_
                      show ab_Z m_La_partOf _ _ _ 113 [_, _, _, _, _, _, _, _] [_, _, _, _, _, _, _] _
                      rw [L1, pk_sub (show 1 ≤ y.2.1 by omega)]
                      refine ab_ck ok_La_partOf rfl rfl (by rw [nI_t (by omega)]; omega) ?_
                      show ab_Z m_La_partOf _ _ _ 114 [_, _, _, _, _, _, _, _] [_, _, _, _, _, _] _
                      rw [nI_c (by omega), nI_c (by omega), lpH_st s 30 y (y.2.1 - 2), lpH_st s 30 y (y.2.1 - 1)]
                      refine ab_cl ok_La_partOf rfl [_, _, _, _] [_, _] rfl ⟨_, _, rfl, rfl, Or.inl ⟨_, _, rfl, rfl⟩⟩ (Nat.le_of_ble_eq_true rfl) (t_La_joined_30 d fm X s t y (k := k + 2) (by omega) o2 n _ _ _ rfl) ?_
                      rintro _ _ ⟨rfl, rfl⟩
                      show ab_Z m_La_partOf _ _ _ 115 [_, _, _, _, _, _, _, _] [_, _, _] _
                      refine ab_ck ok_La_partOf rfl rfl (by rw [nI_t (by omega)]; omega) ?_
                      show ab_Z m_La_partOf _ _ _ 116 [_, _, _, _, _, _, _, _] [] _
                      rw [nI_c (by omega), lpH_up s 30 _ (y.2.1 - 2) (y.2.1 - 1)]
                      refine ab_go ok_La_partOf 3 rfl ?_
                      show ab_Z m_La_partOf _ _ _ 32 [_, _, _, _, _, _, _, _] [] _
                      rw [sb_m1 (show 0 < y.2.1 by omega)]
                      exact ih
                · intro h5
                  show ab_Z m_La_partOf _ _ _ 68 [_, _, _, _, _, _, _, _] [] _
                  exact absurd n2 h5
              · intro h4
                show ab_Z m_La_partOf _ _ _ 54 [_, _, _, _, _, _, _, _] [] _
                exact absurd n1 h4
  refine ab_T_of (M := m_La_partOf) rfl rfl (Nat.le_of_ble_eq_true rfl) ?_
  show ab_Z m_La_partOf _ _ _ 0 [_, _, _, _, _, _, _, _] [] _
  refine ab_go ok_La_partOf 1 rfl ?_
  show ab_Z m_La_partOf _ _ _ 1 [_, _, _, _, _, _, _, _] [_] _
  refine ab_br ok_La_partOf rfl rfl ?_ ?_
  · intro h1
    show ab_Z m_La_partOf _ _ _ 12 [_, _, _, _, _, _, _, _] [] _
    exact absurd h1 (nI_l0 (by omega))
  · intro h1
    show ab_Z m_La_partOf _ _ _ 2 [_, _, _, _, _, _, _, _] [] _
    refine ab_go ok_La_partOf 4 rfl ?_
    show ab_Z m_La_partOf _ _ _ 6 [_, _, _, _, _, _, _, _] [_, _] _
    refine ab_br ok_La_partOf rfl rfl ?_ ?_
    · intro h2
      show ab_Z m_La_partOf _ _ _ 12 [_, _, _, _, _, _, _, _] [] _
      exact absurd h2 (lp_in (N := 13) (by decide) hi)
    · intro h2
      show ab_Z m_La_partOf _ _ _ 7 [_, _, _, _, _, _, _, _] [] _
      refine ab_go ok_La_partOf 3 rfl ?_
      show ab_Z m_La_partOf _ _ _ 10 [_, _, _, _, _, _, _, _] [_, _] _
      refine ab_ck ok_La_partOf rfl rfl (by rw [nI_t (by omega)]; omega) ?_
      show ab_Z m_La_partOf _ _ _ 11 [_, _, _, _, _, _, _, _] [_] _
      rw [nI_c (by omega), show lpH s 30 z 32 i = nI b by rw [lpH_o s 30 z (by decide) (by decide)]; exact hE]
      refine ab_go ok_La_partOf 5 rfl ?_
      show ab_Z m_La_partOf _ _ _ 17 [_, _, _, _, _, _, _, _] [_] _
      refine ab_br ok_La_partOf rfl rfl ?_ ?_
      · intro h3
        show ab_Z m_La_partOf _ _ _ 30 [_, _, _, _, _, _, _, _] [] _
        refine ab_go ok_La_partOf 2 rfl ?_
        show ab_Z m_La_partOf _ _ _ 32 [_, _, _, _, _, _, _, _] [] _
        obtain rfl : i = 0 := by
          have := i_leR (z := 0) rfl h3
          rw [nI_t (by omega)] at this
          omega
        obtain rfl : a = 0 := hF
        exact loop
      · intro h3
        show ab_Z m_La_partOf _ _ _ 18 [_, _, _, _, _, _, _, _] [] _
        have hi0 : i ≠ 0 := fun z => h3 (by subst z; decide)
        rw [if_neg hi0] at hF
        refine ab_go ok_La_partOf 4 rfl ?_
        show ab_Z m_La_partOf _ _ _ 22 [_, _, _, _, _, _, _, _] [_, _] _
        refine ab_br ok_La_partOf rfl rfl ?_ ?_
        · intro h4
          show ab_Z m_La_partOf _ _ _ 30 [_, _, _, _, _, _, _, _] [] _
          exact absurd h4 (show ¬ nI 13 < nI i from nI_nlt (by omega) (by decide))
        · intro h4
          show ab_Z m_La_partOf _ _ _ 23 [_, _, _, _, _, _, _, _] [] _
          refine ab_go ok_La_partOf 5 rfl ?_
          show ab_Z m_La_partOf _ _ _ 28 [_, _, _, _, _, _, _, _] [_, _] _
          rw [L1, pk_sub (show 1 ≤ i by omega)]
          refine ab_ck ok_La_partOf rfl rfl (by rw [nI_t (by omega)]; omega) ?_
          show ab_Z m_La_partOf _ _ _ 29 [_, _, _, _, _, _, _, _] [_] _
          rw [nI_c (by omega), show lpH s 30 z 32 (i - 1) = nI a by rw [lpH_o s 30 z (by decide) (by decide)]; exact hF]
          refine ab_go ok_La_partOf 2 rfl ?_
          show ab_Z m_La_partOf _ _ _ 32 [_, _, _, _, _, _, _, _] [] _
          exact loop
theorem t_La_partOf_34 (z : Stk) {a b i : Nat} (Q : List Ins) (hz : z.2.1 = 0) (hi : i < 13) (hE : s 36 i = nI b) (hF : if i = 0 then a = 0 else s 36 (i - 1) = nI a) (hb : b = a + Q.length) (hb4 : b ≤ 400) (hQ : ∀ j q, Q[j]? = some q → s 35 (a + j) = encI q) (hok : okQ Q 0) : ab_T g_La_partOf (d + 1) (0, 0) [.ref 34, .int (nI i), .ref 12] (HA fm X (lpH s 34 z) t) (PI ((runI (s 12) z Q).1 0) (HA fm X (lpH s 34 (runI (s 12) z Q)) t)) := by
  have loop : ab_Z m_La_partOf (d + 1) (0, 0) (PI ((runI (s 12) z Q).1 0) (HA fm X (lpH s 34 (runI (s 12) z Q)) t)) 32 [some (.ref 34), none, some (.ref 12), some (.int (nI b)), some (.int 0), some (.int (nI a)), none, none] [] (HA fm X (lpH s 34 z) t) := by
    have h0 : (runI (s 12) z (Q.take 0)) = z := rfl
    have := lp_dn Q.length (fun j => ab_Z m_La_partOf (d + 1) (0, 0) (PI ((runI (s 12) z Q).1 0) (HA fm X (lpH s 34 (runI (s 12) z Q)) t)) 32 [some (.ref 34), none, some (.ref 12), some (.int (nI b)), some (.int (nI (runI (s 12) z (Q.take j)).2.1)), some (.int (nI (a + j))), none, none] [] (HA fm X (lpH s 34 (runI (s 12) z (Q.take j))) t)) ?_ ?_
    · rw [h0, hz, Nat.add_zero] at this
      exact this
    · rw [List.take_length, ← hb]
      refine ab_go ok_La_partOf 1 rfl ?_
      show ab_Z m_La_partOf _ _ _ 33 [_, _, _, _, _, _, _, _] [_] _
      refine ab_br ok_La_partOf rfl rfl ?_ ?_
      · intro h1
        show ab_Z m_La_partOf _ _ _ 119 [_, _, _, _, _, _, _, _] [] _
        exact absurd h1 (nI_l0 (by omega))
      · intro h1
        show ab_Z m_La_partOf _ _ _ 34 [_, _, _, _, _, _, _, _] [] _
        refine ab_go ok_La_partOf 2 rfl ?_
        show ab_Z m_La_partOf _ _ _ 36 [_, _, _, _, _, _, _, _] [_, _] _
        refine ab_br ok_La_partOf rfl rfl ?_ ?_
        · intro h2
          show ab_Z m_La_partOf _ _ _ 119 [_, _, _, _, _, _, _, _] [] _
          refine ab_go ok_La_partOf 3 rfl ?_
          show ab_Z m_La_partOf _ _ _ 122 [_, _, _, _, _, _, _, _] [_, _] _
          refine ab_go ok_La_partOf 1 rfl ?_
          show ab_Z m_La_partOf _ _ _ 123 [_, _, _, _, _, _, _, _] [_] _
          exact ab_rI ok_La_partOf rfl (⟨by rw [show lpH s 34 (runI (s 12) z Q) 37 (0 : Int32).toNatClampNeg = (runI (s 12) z Q).1 0 from lpH_st s 34 _ 0], rfl⟩)
        · intro h2
          show ab_Z m_La_partOf _ _ _ 37 [_, _, _, _, _, _, _, _] [] _
          exact absurd (lp_out b) h2
    · intro j hj ih
      obtain ⟨q, hq⟩ : ∃ q, Q[j]? = some q := ⟨Q[j], List.getElem?_eq_getElem hj⟩
      have hoj := okQ_at (s 12) Q z (by rw [hz]; exact hok) j q hq
      rw [runI_succ (s 12) z Q hq, ← Nat.add_assoc, nI_succ] at ih
      have hv := hQ j q hq
      generalize runI (s 12) z (List.take j Q) = y at ih hoj ⊢
      have ec : lpH s 34 y 35 (nI (a + j)).toNatClampNeg = encI q := by
        rw [nI_c (by omega), lpH_o s 34 y (by decide) (by decide)]
        exact hv
      refine ab_go ok_La_partOf 1 rfl ?_
      show ab_Z m_La_partOf _ _ _ 33 [_, _, _, _, _, _, _, _] [_] _
      refine ab_br ok_La_partOf rfl rfl ?_ ?_
      · intro h1
        show ab_Z m_La_partOf _ _ _ 119 [_, _, _, _, _, _, _, _] [] _
        exact absurd h1 (nI_l0 (by omega))
      · intro h1
        show ab_Z m_La_partOf _ _ _ 34 [_, _, _, _, _, _, _, _] [] _
        refine ab_go ok_La_partOf 2 rfl ?_
        show ab_Z m_La_partOf _ _ _ 36 [_, _, _, _, _, _, _, _] [_, _] _
        refine ab_br ok_La_partOf rfl rfl ?_ ?_
        · intro h2
          show ab_Z m_La_partOf _ _ _ 119 [_, _, _, _, _, _, _, _] [] _
          exact absurd h2 (lp_in (by omega) (by omega))
        · intro h2
          show ab_Z m_La_partOf _ _ _ 37 [_, _, _, _, _, _, _, _] [] _
          refine ab_go ok_La_partOf 4 rfl ?_
          show ab_Z m_La_partOf _ _ _ 41 [_, _, _, _, _, _, _, _] [_, _] _
          refine ab_br ok_La_partOf rfl rfl ?_ ?_
          · intro h3
            show ab_Z m_La_partOf _ _ _ 119 [_, _, _, _, _, _, _, _] [] _
            exact absurd h3 (lp_in (N := 400) (by decide) (by omega))
          · intro h3
            show ab_Z m_La_partOf _ _ _ 42 [_, _, _, _, _, _, _, _] [] _
            refine ab_go ok_La_partOf 3 rfl ?_
            show ab_Z m_La_partOf _ _ _ 45 [_, _, _, _, _, _, _, _] [_, _] _
            refine ab_ck ok_La_partOf rfl rfl (by rw [nI_t (by omega)]; omega) ?_
            show ab_Z m_La_partOf _ _ _ 46 [_, _, _, _, _, _, _, _] [_] _
            rw [ec]
            refine ab_go ok_La_partOf 7 rfl ?_
            show ab_Z m_La_partOf _ _ _ 53 [_, _, _, _, _, _, _, _] [_] _
            obtain ⟨k, n⟩ := q
            have hk3 : k = 0 ∨ k = 1 ∨ ∃ k2, k = k2 + 2 := by
              rcases Nat.lt_or_ge k 2 with h9 | h9
              · omega
              · exact Or.inr (Or.inr ⟨k - 2, by omega⟩)
            rcases hk3 with rfl | rfl | ⟨k, rfl⟩
            · obtain ⟨o1, o2⟩ := hoj
              refine ab_br ok_La_partOf rfl rfl ?_ ?_
              · intro h4
                show ab_Z m_La_partOf _ _ _ 66 [_, _, _, _, _, _, _, _] [] _
                exact absurd h4 (nI_l0 (n := n) (by omega))
              · intro h4
                show ab_Z m_La_partOf _ _ _ 54 [_, _, _, _, _, _, _, _] [] _
                refine ab_go ok_La_partOf 4 rfl ?_
                show ab_Z m_La_partOf _ _ _ 58 [_, _, _, _, _, _, _, _] [_, _] _
                refine ab_br ok_La_partOf rfl rfl ?_ ?_
                · intro h5
                  show ab_Z m_La_partOf _ _ _ 66 [_, _, _, _, _, _, _, _] [] _
                  exact absurd h5 (lp_in (N := 15) (by decide) o1)
                · intro h5
                  show ab_Z m_La_partOf _ _ _ 59 [_, _, _, _, _, _, _, _] [] _
                  refine ab_go ok_La_partOf 4 rfl ?_
                  show ab_Z m_La_partOf _ _ _ 63 [_, _, _, _, _, _, _, _] [_, _, _] _
                  refine ab_ck ok_La_partOf rfl rfl (by rw [nI_t (by omega)]; omega) ?_
                  show ab_Z m_La_partOf _ _ _ 64 [_, _, _, _, _, _, _, _] [] _
                  rw [nI_c (by omega), lpH_up s 34 y y.2.1 (y.2.1 + 1)]
                  refine ab_go ok_La_partOf 4 rfl ?_
                  show ab_Z m_La_partOf _ _ _ 32 [_, _, _, _, _, _, _, _] [] _
                  rw [← nI_succ y.2.1]
                  exact ih
            · obtain ⟨o1, o2⟩ := hoj
              refine ab_br ok_La_partOf rfl rfl ?_ ?_
              · intro h4
                show ab_Z m_La_partOf _ _ _ 66 [_, _, _, _, _, _, _, _] [] _
                have en : -encI (1, n) - 268 = nI n := by
                  show -(-nI (268 + n)) - 268 = nI n
                  rw [nI_nn, L268, pk_sub (by omega), Nat.add_sub_cancel_left]
                rw [en]
                refine ab_go ok_La_partOf 1 rfl ?_
                show ab_Z m_La_partOf _ _ _ 67 [_, _, _, _, _, _, _, _] [_] _
                refine ab_br ok_La_partOf rfl rfl ?_ ?_
                · intro h5
                  show ab_Z m_La_partOf _ _ _ 86 [_, _, _, _, _, _, _, _] [] _
                  exact absurd h5 (nI_l0 (by omega))
                · intro h5
                  show ab_Z m_La_partOf _ _ _ 68 [_, _, _, _, _, _, _, _] [] _
                  refine ab_go ok_La_partOf 3 rfl ?_
                  show ab_Z m_La_partOf _ _ _ 71 [_, _, _, _, _, _, _, _] [_, _] _
                  refine ab_br ok_La_partOf rfl rfl ?_ ?_
                  · intro h6
                    show ab_Z m_La_partOf _ _ _ 86 [_, _, _, _, _, _, _, _] [] _
                    exact absurd h6 (lp_in (N := 9) (by decide) o2)
                  · intro h6
                    show ab_Z m_La_partOf _ _ _ 72 [_, _, _, _, _, _, _, _] [] _
                    refine ab_go ok_La_partOf 4 rfl ?_
                    show ab_Z m_La_partOf _ _ _ 76 [_, _, _, _, _, _, _, _] [_, _] _
                    refine ab_br ok_La_partOf rfl rfl ?_ ?_
                    · intro h7
                      show ab_Z m_La_partOf _ _ _ 86 [_, _, _, _, _, _, _, _] [] _
                      exact absurd h7 (lp_in (N := 15) (by decide) o1)
                    · intro h7
                      show ab_Z m_La_partOf _ _ _ 77 [_, _, _, _, _, _, _, _] [] _
                      refine ab_go ok_La_partOf 5 rfl ?_
                      show ab_Z m_La_partOf _ _ _ 82 [_, _, _, _, _, _, _, _] [_, _, _, _] _
                      refine ab_ck ok_La_partOf rfl rfl (by rw [nI_t (by omega)]; omega) ?_
                      show ab_Z m_La_partOf _ _ _ 83 [_, _, _, _, _, _, _, _] [_, _, _] _
                      rw [nI_c (by omega), show lpH s 34 y 12 n = s 12 n by rw [lpH_o s 34 y (by decide) (by decide)]]
                      refine ab_ck ok_La_partOf rfl rfl (by rw [nI_t (by omega)]; omega) ?_
                      show ab_Z m_La_partOf _ _ _ 84 [_, _, _, _, _, _, _, _] [] _
                      rw [nI_c (by omega), lpH_up s 34 y y.2.1 (y.2.1 + 1)]
                      refine ab_go ok_La_partOf 4 rfl ?_
                      show ab_Z m_La_partOf _ _ _ 32 [_, _, _, _, _, _, _, _] [] _
                      rw [← nI_succ y.2.1]
                      exact ih
              · intro h4
                show ab_Z m_La_partOf _ _ _ 54 [_, _, _, _, _, _, _, _] [] _
                exact absurd (nI_neg (n := 268 + n) (by omega) (by omega)) h4
            · obtain ⟨o1, o3, o2⟩ := hoj
              obtain ⟨n1, n2⟩ := enc_neg (k := k + 2) (n := n) (by omega) o2
              refine ab_br ok_La_partOf rfl rfl ?_ ?_
              · intro h4
                show ab_Z m_La_partOf _ _ _ 66 [_, _, _, _, _, _, _, _] [] _
                refine ab_go ok_La_partOf 1 rfl ?_
                show ab_Z m_La_partOf _ _ _ 67 [_, _, _, _, _, _, _, _] [_] _
                refine ab_br ok_La_partOf rfl rfl ?_ ?_
                · intro h5
                  show ab_Z m_La_partOf _ _ _ 86 [_, _, _, _, _, _, _, _] [] _
                  refine ab_go ok_La_partOf 2 rfl ?_
                  show ab_Z m_La_partOf _ _ _ 88 [_, _, _, _, _, _, _, _] [_, _] _
                  refine ab_br ok_La_partOf rfl rfl ?_ ?_
                  · intro h6
                    show ab_Z m_La_partOf _ _ _ 117 [_, _, _, _, _, _, _, _] [] _
                    exact absurd h6 (by rw [L2]; exact nI_nlt o1 (by omega))
                  · intro h6
                    show ab_Z m_La_partOf _ _ _ 89 [_, _, _, _, _, _, _, _] [] _
                    refine ab_go ok_La_partOf 4 rfl ?_
                    show ab_Z m_La_partOf _ _ _ 93 [_, _, _, _, _, _, _, _] [_, _] _
                    refine ab_br ok_La_partOf rfl rfl ?_ ?_
                    · intro h7
                      show ab_Z m_La_partOf _ _ _ 117 [_, _, _, _, _, _, _, _] [] _
                      exact absurd h7 (show ¬ nI 15 < nI y.2.1 from nI_nlt o3 (by decide))
                    · intro h7
                      show ab_Z m_La_partOf _ _ _ 94 [_, _, _, _, _, _, _, _] [] _
                      refine ab_go ok_La_partOf 13 rfl ?_
                      show ab_Z m_La_partOf _ _ _ 107 [_, _, _, _, _, _, _, _] [_, _, _, _, _, _] _
                      rw [L2, pk_sub o1]
                      refine ab_ck ok_La_partOf rfl rfl (by rw [nI_t (by omega)]; omega) ?_
                      show ab_Z m_La_partOf _ _ _ 108 [_, _, _, _, _, _, _, _] [_, _, _, _, _] _
                      refine ab_go ok_La_partOf 5 rfl ?_
                      show ab_Z m_La_partOf _ _ _ 113 [_, _, _, _, _, _, _, _] [_, _, _, _, _, _, _] _
                      rw [L1, pk_sub (show 1 ≤ y.2.1 by omega)]
                      refine ab_ck ok_La_partOf rfl rfl (by rw [nI_t (by omega)]; omega) ?_
                      show ab_Z m_La_partOf _ _ _ 114 [_, _, _, _, _, _, _, _] [_, _, _, _, _, _] _
                      rw [nI_c (by omega), nI_c (by omega), lpH_st s 34 y (y.2.1 - 2), lpH_st s 34 y (y.2.1 - 1)]
                      refine ab_cl ok_La_partOf rfl [_, _, _, _] [_, _] rfl ⟨_, _, rfl, rfl, Or.inl ⟨_, _, rfl, rfl⟩⟩ (Nat.le_of_ble_eq_true rfl) (t_La_joined_34 d fm X s t y (k := k + 2) (by omega) o2 n _ _ _ rfl) ?_
                      rintro _ _ ⟨rfl, rfl⟩
                      show ab_Z m_La_partOf _ _ _ 115 [_, _, _, _, _, _, _, _] [_, _, _] _
                      refine ab_ck ok_La_partOf rfl rfl (by rw [nI_t (by omega)]; omega) ?_
                      show ab_Z m_La_partOf _ _ _ 116 [_, _, _, _, _, _, _, _] [] _
                      rw [nI_c (by omega), lpH_up s 34 _ (y.2.1 - 2) (y.2.1 - 1)]
                      refine ab_go ok_La_partOf 3 rfl ?_
                      show ab_Z m_La_partOf _ _ _ 32 [_, _, _, _, _, _, _, _] [] _
                      rw [sb_m1 (show 0 < y.2.1 by omega)]
                      exact ih
                · intro h5
                  show ab_Z m_La_partOf _ _ _ 68 [_, _, _, _, _, _, _, _] [] _
                  exact absurd n2 h5
              · intro h4
                show ab_Z m_La_partOf _ _ _ 54 [_, _, _, _, _, _, _, _] [] _
                exact absurd n1 h4
  refine ab_T_of (M := m_La_partOf) rfl rfl (Nat.le_of_ble_eq_true rfl) ?_
  show ab_Z m_La_partOf _ _ _ 0 [_, _, _, _, _, _, _, _] [] _
  refine ab_go ok_La_partOf 1 rfl ?_
  show ab_Z m_La_partOf _ _ _ 1 [_, _, _, _, _, _, _, _] [_] _
  refine ab_br ok_La_partOf rfl rfl ?_ ?_
  · intro h1
    show ab_Z m_La_partOf _ _ _ 12 [_, _, _, _, _, _, _, _] [] _
    exact absurd h1 (nI_l0 (by omega))
  · intro h1
    show ab_Z m_La_partOf _ _ _ 2 [_, _, _, _, _, _, _, _] [] _
    refine ab_go ok_La_partOf 4 rfl ?_
    show ab_Z m_La_partOf _ _ _ 6 [_, _, _, _, _, _, _, _] [_, _] _
    refine ab_br ok_La_partOf rfl rfl ?_ ?_
    · intro h2
      show ab_Z m_La_partOf _ _ _ 12 [_, _, _, _, _, _, _, _] [] _
      exact absurd h2 (lp_in (N := 13) (by decide) hi)
    · intro h2
      show ab_Z m_La_partOf _ _ _ 7 [_, _, _, _, _, _, _, _] [] _
      refine ab_go ok_La_partOf 3 rfl ?_
      show ab_Z m_La_partOf _ _ _ 10 [_, _, _, _, _, _, _, _] [_, _] _
      refine ab_ck ok_La_partOf rfl rfl (by rw [nI_t (by omega)]; omega) ?_
      show ab_Z m_La_partOf _ _ _ 11 [_, _, _, _, _, _, _, _] [_] _
      rw [nI_c (by omega), show lpH s 34 z 36 i = nI b by rw [lpH_o s 34 z (by decide) (by decide)]; exact hE]
      refine ab_go ok_La_partOf 5 rfl ?_
      show ab_Z m_La_partOf _ _ _ 17 [_, _, _, _, _, _, _, _] [_] _
      refine ab_br ok_La_partOf rfl rfl ?_ ?_
      · intro h3
        show ab_Z m_La_partOf _ _ _ 30 [_, _, _, _, _, _, _, _] [] _
        refine ab_go ok_La_partOf 2 rfl ?_
        show ab_Z m_La_partOf _ _ _ 32 [_, _, _, _, _, _, _, _] [] _
        obtain rfl : i = 0 := by
          have := i_leR (z := 0) rfl h3
          rw [nI_t (by omega)] at this
          omega
        obtain rfl : a = 0 := hF
        exact loop
      · intro h3
        show ab_Z m_La_partOf _ _ _ 18 [_, _, _, _, _, _, _, _] [] _
        have hi0 : i ≠ 0 := fun z => h3 (by subst z; decide)
        rw [if_neg hi0] at hF
        refine ab_go ok_La_partOf 4 rfl ?_
        show ab_Z m_La_partOf _ _ _ 22 [_, _, _, _, _, _, _, _] [_, _] _
        refine ab_br ok_La_partOf rfl rfl ?_ ?_
        · intro h4
          show ab_Z m_La_partOf _ _ _ 30 [_, _, _, _, _, _, _, _] [] _
          exact absurd h4 (show ¬ nI 13 < nI i from nI_nlt (by omega) (by decide))
        · intro h4
          show ab_Z m_La_partOf _ _ _ 23 [_, _, _, _, _, _, _, _] [] _
          refine ab_go ok_La_partOf 5 rfl ?_
          show ab_Z m_La_partOf _ _ _ 28 [_, _, _, _, _, _, _, _] [_, _] _
          rw [L1, pk_sub (show 1 ≤ i by omega)]
          refine ab_ck ok_La_partOf rfl rfl (by rw [nI_t (by omega)]; omega) ?_
          show ab_Z m_La_partOf _ _ _ 29 [_, _, _, _, _, _, _, _] [_] _
          rw [nI_c (by omega), show lpH s 34 z 36 (i - 1) = nI a by rw [lpH_o s 34 z (by decide) (by decide)]; exact hF]
          refine ab_go ok_La_partOf 2 rfl ?_
          show ab_Z m_La_partOf _ _ _ 32 [_, _, _, _, _, _, _, _] [] _
          exact loop
end

