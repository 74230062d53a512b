section
variable (d : Nat) (fm : Value) (X : Nat × (Nat → Int32)) (s : Nat → Nat → Int32) (t : Nat → Nat → Int64)
variable {nc nd nt : Nat} {PT PG PB PF : List (List Ins)}
theorem t_Pl_reachedWith {op : Nat} (hop : op < 64) (a c : Int64) (A C : Nat → Bool) (hA : ∀ i, i < 64 → hsF a (nI i) = A i) (hC : ∀ i, i < 64 → hsF c (nI i) = C i) : ab_T g_Pl_reachedWith (d + 1) (0, 0) [.long a, .long c, .int (nI op)] (HA fm X s t) (fun v h' => h' = HA fm X s t ∧ ∃ r, v = some (.long r) ∧ ∀ i, i < 64 → hsF r (nI i) = rchB A C op i) := by
  generalize hPo : (fun v h' => h' = HA fm X s t ∧ ∃ r, v = some (.long r) ∧ ∀ i, i < 64 → hsF r (nI i) = rchB A C op i : Option Value → ab_H → Prop) = Po
  refine ab_T_of (M := m_Pl_reachedWith) rfl rfl (Nat.le_of_ble_eq_true rfl) ?_
  show ab_Z m_Pl_reachedWith _ _ _ 0 [_, _, _, _, _, _, _, _, _, _, _] [] _
  refine ab_go ok_Pl_reachedWith 4 rfl ?_
  show ab_Z m_Pl_reachedWith _ _ _ 4 [_, _, _, _, _, _, _, _, _, _, _] [] _
  refine lp_dn 64 (fun S => ∀ r, (∀ i, i < 64 → hsF r (nI i) = rcF A C op S i) → ab_Z m_Pl_reachedWith (d + 1) (0, 0) Po 4 [some (.long a), none, some (.long c), none, some (.int (nI op)), some (.long r), none, some (.int (nI S)), none, none, none] [] (HA fm X s t)) ?_ ?_ 0 (fun i hi => by rw [hsF_0 hi]; rfl)
  · intro r q
    refine ab_go ok_Pl_reachedWith 2 rfl ?_
    show ab_Z m_Pl_reachedWith _ _ _ 6 [_, _, _, _, _, _, _, _, _, _, _] [_, _] _
    refine ab_go ok_Pl_reachedWith 1 rfl ?_
    show ab_Z m_Pl_reachedWith _ _ _ 54 [_, _, _, _, _, _, _, _, _, _, _] [] _
    refine ab_go ok_Pl_reachedWith 1 rfl ?_
    show ab_Z m_Pl_reachedWith _ _ _ 55 [_, _, _, _, _, _, _, _, _, _, _] [_] _
    have fin : Po (some (.long r)) (HA fm X s t) := by
      rw [← hPo]
      exact ⟨rfl, r, rfl, q⟩
    exact ab_rL ok_Pl_reachedWith rfl (fin)
  · intro S hS ih r q
    refine ab_go ok_Pl_reachedWith 2 rfl ?_
    show ab_Z m_Pl_reachedWith _ _ _ 6 [_, _, _, _, _, _, _, _, _, _, _] [_, _] _
    refine ab_br ok_Pl_reachedWith rfl rfl ?_ ?_
    · intro h1
      show ab_Z m_Pl_reachedWith _ _ _ 54 [_, _, _, _, _, _, _, _, _, _, _] [] _
      exact absurd h1 (lp_in (N := 64) (by decide) hS)
    · intro h1
      show ab_Z m_Pl_reachedWith _ _ _ 7 [_, _, _, _, _, _, _, _, _, _, _] [] _
      refine ab_go ok_Pl_reachedWith 8 rfl ?_
      show ab_Z m_Pl_reachedWith _ _ _ 15 [_, _, _, _, _, _, _, _, _, _, _] [_, _] _
      rw [an_nI hop S]
      refine ab_cl ok_Pl_reachedWith rfl [_, _] [] rfl rfl (Nat.le_of_ble_eq_true rfl) (t_Pl_hasSet d _ a (nI S)) ?_
      rintro _ _ ⟨rfl, rfl⟩
      show ab_Z m_Pl_reachedWith _ _ _ 16 [_, _, _, _, _, _, _, _, _, _, _] [_] _
      rw [hA S hS]
      have hend : ∀ (r2 : Int64) (l8 l9 l10 : Option Value), (∀ i, i < 64 → hsF r2 (nI i) = rcF A C op (S + 1) i) → ab_Z m_Pl_reachedWith (d + 1) (0, 0) Po 52 [some (.long a), none, some (.long c), none, some (.int (nI op)), some (.long r2), none, some (.int (nI S)), l8, l9, l10] [] (HA fm X s t) := by
        intro r2 l8 l9 l10 q2
        refine ab_go ok_Pl_reachedWith 2 rfl ?_
        show ab_Z m_Pl_reachedWith _ _ _ 4 [_, _, _, _, _, _, _, _, _, _, _] [] _
        have ih2 := ih r2 q2
        rw [nI_succ] at ih2
        exact ih2
      refine ab_br ok_Pl_reachedWith rfl rfl ?_ ?_
      · intro h2
        show ab_Z m_Pl_reachedWith _ _ _ 52 [_, _, _, _, _, _, _, _, _, _, _] [] _
        exact hend r _ _ _ (fun i hi => by rw [q i hi, rcF, if_neg (by rw [bB_0.mp h2]; decide)])
      · intro h2
        show ab_Z m_Pl_reachedWith _ _ _ 17 [_, _, _, _, _, _, _, _, _, _, _] [] _
        have hS1 : rcF A C op (S + 1) = (chL (anN op S) 64 (anN op S)).foldl (rcS C S) (fun i => rcF A C op S i || decide (i = S)) := by rw [rcF, if_pos (bB_n0 h2)]
        have hR := anN_lt op S
        generalize hRR : anN op S = R at hS1 hR ⊢
        refine ab_go ok_Pl_reachedWith 10 rfl ?_
        show ab_Z m_Pl_reachedWith _ _ _ 27 [_, _, _, _, _, _, _, _, _, _, _] [] _
        have lp : ∀ k n p r2 acc, n + k = 64 → p < 64 → p &&& R = p → (∀ i, i < 64 → hsF r2 (nI i) = acc i) → (chL R k p).foldl (rcS C S) acc = rcF A C op (S + 1) → ab_Z m_Pl_reachedWith (d + 1) (0, 0) Po 27 [some (.long a), none, some (.long c), none, some (.int (nI op)), some (.long r2), none, some (.int (nI S)), some (.int (nI R)), some (.int (nI n)), some (.int (nI p))] [] (HA fm X s t) := by
          intro k
          induction k with
          | zero =>
            intro n p r2 acc hn hp hps hq hf
            obtain rfl : n = 64 := by omega
            rw [chL, List.foldl_nil] at hf
            refine ab_go ok_Pl_reachedWith 2 rfl ?_
            show ab_Z m_Pl_reachedWith _ _ _ 29 [_, _, _, _, _, _, _, _, _, _, _] [_, _] _
            refine ab_go ok_Pl_reachedWith 1 rfl ?_
            show ab_Z m_Pl_reachedWith _ _ _ 52 [_, _, _, _, _, _, _, _, _, _, _] [] _
            exact hend r2 _ _ _ (fun i hi => by rw [hq i hi, hf])
          | succ k ihk =>
            intro n p r2 acc hn hp hps hq hf
            rw [chL] at hf
            refine ab_go ok_Pl_reachedWith 2 rfl ?_
            show ab_Z m_Pl_reachedWith _ _ _ 29 [_, _, _, _, _, _, _, _, _, _, _] [_, _] _
            refine ab_br ok_Pl_reachedWith rfl rfl ?_ ?_
            · intro h3
              show ab_Z m_Pl_reachedWith _ _ _ 52 [_, _, _, _, _, _, _, _, _, _, _] [] _
              exact absurd h3 (lp_in (N := 64) (by decide) (by omega))
            · intro h3
              show ab_Z m_Pl_reachedWith _ _ _ 30 [_, _, _, _, _, _, _, _, _, _, _] [] _
              refine ab_go ok_Pl_reachedWith 1 rfl ?_
              show ab_Z m_Pl_reachedWith _ _ _ 31 [_, _, _, _, _, _, _, _, _, _, _] [_] _
              refine ab_br ok_Pl_reachedWith rfl rfl ?_ ?_
              · intro h4
                show ab_Z m_Pl_reachedWith _ _ _ 52 [_, _, _, _, _, _, _, _, _, _, _] [] _
                have hp0 := (nI_z (by omega)).mp h4
                rw [if_pos hp0, List.foldl_nil] at hf
                exact hend r2 _ _ _ (fun i hi => by rw [hq i hi, hf])
              · intro h4
                show ab_Z m_Pl_reachedWith _ _ _ 32 [_, _, _, _, _, _, _, _, _, _, _] [] _
                have hp0 : ¬ p = 0 := fun z => h4 ((nI_z (by omega)).mpr z)
                rw [if_neg hp0, List.foldl_cons] at hf
                refine ab_go ok_Pl_reachedWith 2 rfl ?_
                show ab_Z m_Pl_reachedWith _ _ _ 34 [_, _, _, _, _, _, _, _, _, _, _] [_, _] _
                refine ab_cl ok_Pl_reachedWith rfl [_, _] [] rfl rfl (Nat.le_of_ble_eq_true rfl) (t_Pl_hasSet d _ c (nI p)) ?_
                rintro _ _ ⟨rfl, rfl⟩
                show ab_Z m_Pl_reachedWith _ _ _ 35 [_, _, _, _, _, _, _, _, _, _, _] [_] _
                rw [hC p hp]
                refine ab_br ok_Pl_reachedWith rfl rfl ?_ ?_
                · intro h5
                  show ab_Z m_Pl_reachedWith _ _ _ 44 [_, _, _, _, _, _, _, _, _, _, _] [] _
                  refine ab_go ok_Pl_reachedWith 8 rfl ?_
                  show ab_Z m_Pl_reachedWith _ _ _ 27 [_, _, _, _, _, _, _, _, _, _, _] [] _
                  rw [nI_sub1 (by omega), nI_and, ← nI_succ n]
                  exact ihk (n + 1) ((p - 1) &&& R) r2 _ (by omega) (and_lt64 _ hR) (sd_sub R hR p hp) (fun i hi => by rw [hq i hi, rcS, bB_0.mp h5, Bool.false_and, Bool.or_false]) hf
                · intro h5
                  show ab_Z m_Pl_reachedWith _ _ _ 36 [_, _, _, _, _, _, _, _, _, _, _] [] _
                  refine ab_go ok_Pl_reachedWith 16 rfl ?_
                  show ab_Z m_Pl_reachedWith _ _ _ 27 [_, _, _, _, _, _, _, _, _, _, _] [] _
                  rw [nI_sub1 (by omega), nI_and, ← nI_succ n, nI_or]
                  exact ihk (n + 1) ((p - 1) &&& R) _ _ (by omega) (and_lt64 _ hR) (sd_sub R hR p hp) (fun i hi => by rw [hsF_or _ (Nat.or_lt_two_pow (n := 6) hS hp) hi, hq i hi, rcS, bB_n0 h5, Bool.true_and]) hf
        exact lp 64 0 R _ _ rfl hR (Nat.and_self R) (fun i hi => by rw [hsF_or _ hS hi, q i hi]) hS1.symm
theorem t_Pl_fewestClerks (hC : CI s nc nd nt PT PG PB PF) (hP : POk s t PT PB nc nd) : ab_T g_Pl_fewestClerks (d + 2) (0, 0) [.ref 45] (HA fm X s t) (fun v h => v = some (.int (fewA s PT nc nd)) ∧ ∃ t', h = HA fm X s t' ∧ ∀ x, x ≠ 51 → t' x = t x) := by
  have h5 : nc ≤ 5 := hC.1.2.1
  have h6 : nd ≤ 6 := hC.1.2.2.2.1
  have hop := opN_lt s h6
  generalize hPo : (fun v h => v = some (.int (fewA s PT nc nd)) ∧ ∃ t', h = HA fm X s t' ∧ ∀ x, x ≠ 51 → t' x = t x : Option Value → ab_H → Prop) = Po
  unfold fewA at hPo
  unfold POk at hP
  refine ab_T_of (M := m_Pl_fewestClerks) rfl rfl (Nat.le_of_ble_eq_true rfl) ?_
  show ab_Z m_Pl_fewestClerks _ _ _ 0 [_, _, _, _, _, _] [] _
  refine ab_go ok_Pl_fewestClerks 3 rfl ?_
  show ab_Z m_Pl_fewestClerks _ _ _ 3 [_, _, _, _, _, _] [_, _] _
  refine ab_cl ok_Pl_fewestClerks rfl [_, _] [] rfl ⟨_, _, rfl, rfl, Or.inl ⟨_, _, rfl, rfl⟩⟩ (Nat.le_of_ble_eq_true rfl) (t_Ha_deedsWith d fm X s t (-2) hC.1.2.2.1 h6) ?_
  rintro _ _ ⟨rfl, rfl⟩
  show ab_Z m_Pl_fewestClerks _ _ _ 4 [_, _, _, _, _, _] [_] _
  rw [show bitsN (fun k => decide (s 11 (33 + k) = -2)) nd = opN s nd from rfl]
  generalize opN s nd = op at hop hPo hP ⊢
  generalize hG : (fun c => plC s PT nd c op) = G at hPo
  have hcan : ∀ c, c < nc → ∀ A, A < 64 → hsF (t 46 c) (nI A) = G c A := fun c hc A hA => by rw [← hG]; exact (hP c hc).1 A hA
  refine ab_go ok_Pl_fewestClerks 5 rfl ?_
  show ab_Z m_Pl_fewestClerks _ _ _ 9 [_, _, _, _, _, _] [_, _, _] _
  refine ab_cl ok_Pl_fewestClerks rfl [_, _, _] [] rfl rfl (Nat.le_of_ble_eq_true rfl) (t_SF_putLong_51 (d + 1) fm X s t _ 0 1 (by decide) rfl) ?_
  rintro _ _ ⟨rfl, rfl⟩
  show ab_Z m_Pl_fewestClerks _ _ _ 10 [_, _, _, _, _, _] [] _
  refine ab_go ok_Pl_fewestClerks 2 rfl ?_
  show ab_Z m_Pl_fewestClerks _ _ _ 12 [_, _, _, _, _, _] [] _
  refine lp_dn nc (fun l => ∀ t1, (∀ x, x ≠ 51 → t1 x = t x) → (∀ S, S < 2 ^ l → ∀ i, i < 64 → hsF (t1 51 S) (nI i) = rT G op l S i) → ab_Z m_Pl_fewestClerks (d + 2) (0, 0) Po 12 [some (.ref 45), some (.int (nI op)), some (.int (nI l)), none, none, none] [] (HA fm X s t1)) ?_ ?_ _ (fun x hx => by rw [ab_up_o hx]) (fun S hS i hi => by
    obtain rfl : S = 0 := by simpa using hS
    rw [ab_up_s, hsF_1 hi]; rfl)
  · intro t1 hk q
    refine ab_go ok_Pl_fewestClerks 5 rfl ?_
    show ab_Z m_Pl_fewestClerks _ _ _ 17 [_, _, _, _, _, _] [_, _] _
    rw [hC.1.1]
    refine ab_br ok_Pl_fewestClerks rfl rfl ?_ ?_
    · intro h1
      show ab_Z m_Pl_fewestClerks _ _ _ 49 [_, _, _, _, _, _] [] _
      refine ab_go ok_Pl_fewestClerks 4 rfl ?_
      show ab_Z m_Pl_fewestClerks _ _ _ 53 [_, _, _, _, _, _] [] _
      have hpw : 2 ^ nc ≤ 32 := (Nat.pow_le_pow_right (by decide) h5 : 2 ^ nc ≤ 2 ^ 5)
      generalize hR : (fun S => rT G op nc S op) = R at hPo
      have fin : ∀ k, k = 2 ^ nc → Po (some (.int (fewV R k))) (HA fm X s t1) := by
        intro k hk2
        rw [← hPo, hk2]
        exact ⟨rfl, t1, rfl, hk⟩
      refine lp_dn (2 ^ nc) (fun k => ab_Z m_Pl_fewestClerks (d + 2) (0, 0) Po 53 [some (.ref 45), some (.int (nI op)), some (.int (fewV R k)), some (.int (nI k)), none, none] [] (HA fm X s t1)) ?_ ?_
      · refine ab_go ok_Pl_fewestClerks 7 rfl ?_
        show ab_Z m_Pl_fewestClerks _ _ _ 60 [_, _, _, _, _, _] [_, _] _
        rw [hC.1.1, shl_le5 nc h5]
        refine ab_br ok_Pl_fewestClerks rfl rfl ?_ ?_
        · intro h2
          show ab_Z m_Pl_fewestClerks _ _ _ 86 [_, _, _, _, _, _] [] _
          refine ab_go ok_Pl_fewestClerks 1 rfl ?_
          show ab_Z m_Pl_fewestClerks _ _ _ 87 [_, _, _, _, _, _] [_] _
          exact ab_rI ok_Pl_fewestClerks rfl (fin _ rfl)
        · intro h2
          show ab_Z m_Pl_fewestClerks _ _ _ 61 [_, _, _, _, _, _] [] _
          exact absurd (lp_out _) h2
      · intro k hk2 ih
        have ih0 := ih
        rw [nI_succ] at ih
        refine ab_go ok_Pl_fewestClerks 7 rfl ?_
        show ab_Z m_Pl_fewestClerks _ _ _ 60 [_, _, _, _, _, _] [_, _] _
        rw [hC.1.1, shl_le5 nc h5]
        refine ab_br ok_Pl_fewestClerks rfl rfl ?_ ?_
        · intro h2
          show ab_Z m_Pl_fewestClerks _ _ _ 86 [_, _, _, _, _, _] [] _
          exact absurd h2 (lp_in (by omega) hk2)
        · intro h2
          show ab_Z m_Pl_fewestClerks _ _ _ 61 [_, _, _, _, _, _] [] _
          refine ab_go ok_Pl_fewestClerks 2 rfl ?_
          show ab_Z m_Pl_fewestClerks _ _ _ 63 [_, _, _, _, _, _] [_, _] _
          have hyes : (fewV R k = -2 ∨ bcF (nI k) < bcF (fewV R k)) → ab_Z m_Pl_fewestClerks (d + 2) (0, 0) Po 69 [some (.ref 45), some (.int (nI op)), some (.int (fewV R k)), some (.int (nI k)), none, none] [] (HA fm X s t1) := by
            intro hy
            refine ab_go ok_Pl_fewestClerks 4 rfl ?_
            show ab_Z m_Pl_fewestClerks _ _ _ 74 [_, _, _, _, _, _] [_] _
            refine ab_go ok_Pl_fewestClerks 1 rfl ?_
            show ab_Z m_Pl_fewestClerks _ _ _ 75 [_, _, _, _, _, _] [] _
            refine ab_go ok_Pl_fewestClerks 3 rfl ?_
            show ab_Z m_Pl_fewestClerks _ _ _ 78 [_, _, _, _, _, _] [_, _] _
            refine ab_cl ok_Pl_fewestClerks rfl [_, _] [] rfl rfl (Nat.le_of_ble_eq_true rfl) (t_SF_longAt_51 (d + 1) fm X s t1 _ k (by omega) rfl) ?_
            rintro _ _ ⟨rfl, rfl⟩
            show ab_Z m_Pl_fewestClerks _ _ _ 79 [_, _, _, _, _, _] [_] _
            refine ab_go ok_Pl_fewestClerks 1 rfl ?_
            show ab_Z m_Pl_fewestClerks _ _ _ 80 [_, _, _, _, _, _] [_, _] _
            refine ab_cl ok_Pl_fewestClerks rfl [_, _] [] rfl rfl (Nat.le_of_ble_eq_true rfl) (t_Pl_hasSet (d + 1) _ _ (nI op)) ?_
            rintro _ _ ⟨rfl, rfl⟩
            show ab_Z m_Pl_fewestClerks _ _ _ 81 [_, _, _, _, _, _] [_] _
            rw [q k hk2 op hop, show rT G op nc k op = R k from by rw [← hR]]
            refine ab_br ok_Pl_fewestClerks rfl rfl ?_ ?_
            · intro h3
              show ab_Z m_Pl_fewestClerks _ _ _ 84 [_, _, _, _, _, _] [] _
              refine ab_go ok_Pl_fewestClerks 2 rfl ?_
              show ab_Z m_Pl_fewestClerks _ _ _ 53 [_, _, _, _, _, _] [] _
              rw [fewV, if_neg (fun z => by rw [bB_0.mp h3] at z; exact absurd z.2 (by decide))] at ih
              exact ih
            · intro h3
              show ab_Z m_Pl_fewestClerks _ _ _ 82 [_, _, _, _, _, _] [] _
              refine ab_go ok_Pl_fewestClerks 4 rfl ?_
              show ab_Z m_Pl_fewestClerks _ _ _ 53 [_, _, _, _, _, _] [] _
              rw [fewV, if_pos ⟨hy, bB_n0 h3⟩] at ih
              exact ih
          refine ab_br ok_Pl_fewestClerks rfl rfl ?_ ?_
          · intro h3
            show ab_Z m_Pl_fewestClerks _ _ _ 69 [_, _, _, _, _, _] [] _
            exact hyes (Or.inl h3)
          · intro h3
            show ab_Z m_Pl_fewestClerks _ _ _ 64 [_, _, _, _, _, _] [] _
            refine ab_go ok_Pl_fewestClerks 1 rfl ?_
            show ab_Z m_Pl_fewestClerks _ _ _ 65 [_, _, _, _, _, _] [_] _
            refine ab_cl ok_Pl_fewestClerks rfl [_] [] rfl rfl (Nat.le_of_ble_eq_true rfl) (t_JI_bitCount (d + 1) _ _) ?_
            rintro _ _ ⟨rfl, rfl⟩
            show ab_Z m_Pl_fewestClerks _ _ _ 66 [_, _, _, _, _, _] [_] _
            refine ab_go ok_Pl_fewestClerks 1 rfl ?_
            show ab_Z m_Pl_fewestClerks _ _ _ 67 [_, _, _, _, _, _] [_, _] _
            refine ab_cl ok_Pl_fewestClerks rfl [_] [_] rfl rfl (Nat.le_of_ble_eq_true rfl) (t_JI_bitCount (d + 1) _ _) ?_
            rintro _ _ ⟨rfl, rfl⟩
            show ab_Z m_Pl_fewestClerks _ _ _ 68 [_, _, _, _, _, _] [_, _] _
            refine ab_br ok_Pl_fewestClerks rfl rfl ?_ ?_
            · intro h4
              show ab_Z m_Pl_fewestClerks _ _ _ 71 [_, _, _, _, _, _] [] _
              refine ab_go ok_Pl_fewestClerks 3 rfl ?_
              show ab_Z m_Pl_fewestClerks _ _ _ 74 [_, _, _, _, _, _] [_] _
              refine ab_go ok_Pl_fewestClerks 1 rfl ?_
              show ab_Z m_Pl_fewestClerks _ _ _ 84 [_, _, _, _, _, _] [] _
              refine ab_go ok_Pl_fewestClerks 2 rfl ?_
              show ab_Z m_Pl_fewestClerks _ _ _ 53 [_, _, _, _, _, _] [] _
              rw [fewV, if_neg (fun z => z.1.elim h3 (fun z => absurd (i_lt z) (by have := i_le h4; omega)))] at ih
              exact ih
            · intro h4
              show ab_Z m_Pl_fewestClerks _ _ _ 69 [_, _, _, _, _, _] [] _
              exact hyes (Or.inr (Int32.lt_iff_toInt_lt.mpr (i_nle h4)))
    · intro h1
      show ab_Z m_Pl_fewestClerks _ _ _ 18 [_, _, _, _, _, _] [] _
      exact absurd (lp_out nc) h1
  · intro l hl ih t1 hk q
    have hpw : 2 ^ l ≤ 16 := (Nat.pow_le_pow_right (by decide) (show l ≤ 4 by omega) : 2 ^ l ≤ 2 ^ 4)
    have hps : 2 ^ (l + 1) = 2 ^ l + 2 ^ l := by rw [Nat.pow_succ]; omega
    refine ab_go ok_Pl_fewestClerks 5 rfl ?_
    show ab_Z m_Pl_fewestClerks _ _ _ 17 [_, _, _, _, _, _] [_, _] _
    rw [hC.1.1]
    refine ab_br ok_Pl_fewestClerks rfl rfl ?_ ?_
    · intro h1
      show ab_Z m_Pl_fewestClerks _ _ _ 49 [_, _, _, _, _, _] [] _
      exact absurd h1 (lp_in (by omega) hl)
    · intro h1
      show ab_Z m_Pl_fewestClerks _ _ _ 18 [_, _, _, _, _, _] [] _
      refine ab_go ok_Pl_fewestClerks 2 rfl ?_
      show ab_Z m_Pl_fewestClerks _ _ _ 20 [_, _, _, _, _, _] [] _
      refine lp_dn (2 ^ l) (fun b => ∀ t2, (∀ x, x ≠ 51 → t2 x = t x) → (∀ S, S < 2 ^ l + b → ∀ i, i < 64 → hsF (t2 51 S) (nI i) = rT G op (l + 1) S i) → ab_Z m_Pl_fewestClerks (d + 2) (0, 0) Po 20 [some (.ref 45), some (.int (nI op)), some (.int (nI l)), some (.int (nI b)), none, none] [] (HA fm X s t2)) ?_ ?_ t1 hk (fun S hS i hi => by
        have hSl : S < 2 ^ l := by omega
        rw [q S hSl i hi, rT, if_neg (by rw [Nat.testBit_lt_two_pow hSl]; decide)])
      · intro t2 hk2 q2
        refine ab_go ok_Pl_fewestClerks 4 rfl ?_
        show ab_Z m_Pl_fewestClerks _ _ _ 24 [_, _, _, _, _, _] [_, _] _
        rw [shl_le5 l (by omega)]
        refine ab_br ok_Pl_fewestClerks rfl rfl ?_ ?_
        · intro h2
          show ab_Z m_Pl_fewestClerks _ _ _ 47 [_, _, _, _, _, _] [] _
          refine ab_go ok_Pl_fewestClerks 2 rfl ?_
          show ab_Z m_Pl_fewestClerks _ _ _ 12 [_, _, _, _, _, _] [] _
          have ih2 := ih t2 hk2 (fun S hS => q2 S (by omega))
          rw [nI_succ] at ih2
          exact ih2
        · intro h2
          show ab_Z m_Pl_fewestClerks _ _ _ 25 [_, _, _, _, _, _] [] _
          exact absurd (lp_out _) h2
      · intro b hb ihb t2 hk2 q2
        refine ab_go ok_Pl_fewestClerks 4 rfl ?_
        show ab_Z m_Pl_fewestClerks _ _ _ 24 [_, _, _, _, _, _] [_, _] _
        rw [shl_le5 l (by omega)]
        refine ab_br ok_Pl_fewestClerks rfl rfl ?_ ?_
        · intro h2
          show ab_Z m_Pl_fewestClerks _ _ _ 47 [_, _, _, _, _, _] [] _
          exact absurd h2 (lp_in (by omega) hb)
        · intro h2
          show ab_Z m_Pl_fewestClerks _ _ _ 25 [_, _, _, _, _, _] [] _
          refine ab_go ok_Pl_fewestClerks 3 rfl ?_
          show ab_Z m_Pl_fewestClerks _ _ _ 28 [_, _, _, _, _, _] [_, _] _
          refine ab_cl ok_Pl_fewestClerks rfl [_, _] [] rfl rfl (Nat.le_of_ble_eq_true rfl) (t_SF_longAt_51 (d + 1) fm X s t2 _ b (by omega) rfl) ?_
          rintro _ _ ⟨rfl, rfl⟩
          show ab_Z m_Pl_fewestClerks _ _ _ 29 [_, _, _, _, _, _] [_] _
          refine ab_go ok_Pl_fewestClerks 3 rfl ?_
          show ab_Z m_Pl_fewestClerks _ _ _ 32 [_, _, _, _, _, _] [_, _, _] _
          refine ab_cl ok_Pl_fewestClerks rfl [_, _] [_] rfl rfl (Nat.le_of_ble_eq_true rfl) (t_SF_longAt_46 (d + 1) fm X s t2 _ l (by omega) rfl) ?_
          rintro _ _ ⟨rfl, rfl⟩
          show ab_Z m_Pl_fewestClerks _ _ _ 33 [_, _, _, _, _, _] [_, _] _
          rw [hk2 46 (by decide)]
          refine ab_go ok_Pl_fewestClerks 1 rfl ?_
          show ab_Z m_Pl_fewestClerks _ _ _ 34 [_, _, _, _, _, _] [_, _, _] _
          refine ab_cl ok_Pl_fewestClerks rfl [_, _, _] [] rfl rfl (Nat.le_of_ble_eq_true rfl) (t_Pl_reachedWith d fm X s t2 hop _ _ (rT G op l b) (G l) (fun i hi => by rw [q2 b (by omega) i hi, rT, if_neg (by rw [Nat.testBit_lt_two_pow hb]; decide)]) (hcan l hl)) ?_
          rintro _ _ ⟨rfl, r, rfl, hr⟩
          show ab_Z m_Pl_fewestClerks _ _ _ 35 [_, _, _, _, _, _] [_] _
          refine ab_go ok_Pl_fewestClerks 9 rfl ?_
          show ab_Z m_Pl_fewestClerks _ _ _ 44 [_, _, _, _, _, _] [_, _, _] _
          rw [shl_le5 l (by omega), nI_or, or_top hb]
          refine ab_cl ok_Pl_fewestClerks rfl [_, _, _] [] rfl rfl (Nat.le_of_ble_eq_true rfl) (t_SF_putLong_51 (d + 1) fm X s t2 _ (2 ^ l + b) r (by omega) rfl) ?_
          rintro _ _ ⟨rfl, rfl⟩
          show ab_Z m_Pl_fewestClerks _ _ _ 45 [_, _, _, _, _, _] [] _
          refine ab_go ok_Pl_fewestClerks 2 rfl ?_
          show ab_Z m_Pl_fewestClerks _ _ _ 20 [_, _, _, _, _, _] [] _
          have ih2 := ihb (ab_up t2 51 (2 ^ l + b) r) (fun x hx => by rw [ab_up_o hx]; exact hk2 x hx) (fun S hS i hi => by
            by_cases hSb : S = 2 ^ l + b
            · subst hSb
              rw [ab_up_s, hr i hi, rT, if_pos (tb_at hb), show (2 ^ l + b) % 2 ^ l = b from by rw [Nat.add_mod_left, Nat.mod_eq_of_lt hb]]
            · rw [ab_up_n hSb]
              exact q2 S (by omega) i hi)
          rw [nI_succ] at ih2
          exact ih2
theorem POk_50 {s s' : Nat → Nat → Int32} {t t' : Nat → Nat → Int64} (hk : ∀ x, x ≠ 50 → s' x = s x) (ht : ∀ x, x ≠ 51 → t' x = t x) (h : POk s t PT PB nc nd) : POk s' t' PT PB nc nd := by
  have hH : KpH s s' := fun x k _ _ h3 => by rw [hk x (by omega)]
  intro c hc
  rw [opN_h hH, ht 46 (by decide), hk 47 (by decide)]
  exact ⟨fun A hA => by rw [plC_h hH]; exact (h c hc).1 A hA, fun A hA a b => by rw [plC_h hH] at b; rw [plS_h hH]; exact (h c hc).2 A hA a b⟩
abbrev PP (r : Int32) (fm : Value) (X : Nat × (Nat → Int32)) (s : Nat → Nat → Int32) (t : Nat → Nat → Int64) (PT PB : List (List Ins)) (nc nd : Nat) : Option Value → ab_H → Prop := fun v h => v = some (.int r) ∧ ∃ s' t', h = HA fm X s' t' ∧ KpP s s' ∧ TpP t t' ∧ POk s' t' PT PB nc nd
theorem t_SF_all (hC : CI s nc nd nt PT PG PB PF) (hI : PlI s t PT PB nc nd) (x : Int32) : ab_T g_SF_all (d + 7) (0, 0) [.ref 0, .int x] (HA fm X s t) (PP (if x = -1 then bbF (bstV s PT PB nc nd) else if inR nd x then slrV (bstV s PT PB nc nd) x.toNatClampNeg else -1) fm X s t PT PB nc nd) := by
  have h6 : nd ≤ 6 := hC.1.2.2.2.1
  refine ab_T_of (M := m_SF_all) rfl rfl (Nat.le_of_ble_eq_true rfl) ?_
  show ab_Z m_SF_all _ _ _ 0 [_, _] [] _
  refine ab_go ok_SF_all 2 rfl ?_
  show ab_Z m_SF_all _ _ _ 2 [_, _] [_] _
  refine ab_cl ok_SF_all rfl [_] [] rfl ⟨_, _, rfl, rfl, Or.inl ⟨_, _, rfl, rfl⟩⟩ (Nat.le_of_ble_eq_true rfl) (t_Pl_prepare d fm X s t hC hI) ?_
  rintro _ _ ⟨rfl, s1, t1, rfl, hk, ht, h45, hP⟩
  show ab_Z m_SF_all _ _ _ 3 [_, _] [] _
  have hC1 := CI_h hk.toH hC
  have hk5 : ∀ s2, (∀ x, x ≠ 50 → s2 x = s1 x) → KpP s s2 := fun s2 h2 x k p q => by rw [h2 x (by omega)]; exact hk x k p q
  refine ab_go ok_SF_all 2 rfl ?_
  show ab_Z m_SF_all _ _ _ 5 [_, _] [_, _] _
  refine ab_br ok_SF_all rfl rfl ?_ ?_
  · intro h1
    show ab_Z m_SF_all _ _ _ 6 [_, _] [] _
    refine ab_go ok_SF_all 2 rfl ?_
    show ab_Z m_SF_all _ _ _ 8 [_, _] [_] _
    refine ab_cl ok_SF_all rfl [_] [] rfl ⟨_, _, rfl, rfl, Or.inl ⟨_, _, rfl, rfl⟩⟩ (Nat.le_of_ble_eq_true rfl) (t_Pl_mostBound (d + 3) fm X s1 t1 hC1 hP) ?_
    rintro _ _ ⟨rfl, s2, rfl, hk2⟩
    show ab_Z m_SF_all _ _ _ 9 [_, _] [_] _
    rw [bstV_h hk.toH, if_pos h1]
    exact ab_rI ok_SF_all rfl (⟨rfl, s2, t1, rfl, hk5 s2 hk2, ht, POk_50 hk2 (fun _ _ => rfl) hP⟩)
  · intro h1
    show ab_Z m_SF_all _ _ _ 10 [_, _] [] _
    rw [if_neg h1]
    refine ab_go ok_SF_all 3 rfl ?_
    show ab_Z m_SF_all _ _ _ 13 [_, _] [_, _] _
    refine ab_cl ok_SF_all rfl [_, _] [] rfl ⟨_, _, rfl, rfl, Or.inl ⟨_, _, rfl, rfl⟩⟩ (Nat.le_of_ble_eq_true rfl) (t_Ha_isDeed' (d + 6) fm X s1 t1 hC1.1 x) ?_
    rintro _ _ ⟨rfl, rfl⟩
    show ab_Z m_SF_all _ _ _ 14 [_, _] [_] _
    refine ab_br ok_SF_all rfl rfl ?_ ?_
    · intro h2
      show ab_Z m_SF_all _ _ _ 20 [_, _] [] _
      refine ab_go ok_SF_all 1 rfl ?_
      show ab_Z m_SF_all _ _ _ 21 [_, _] [_] _
      exact ab_rI ok_SF_all rfl (⟨by rw [if_neg (bI_0.mp h2)], s1, t1, rfl, hk, ht, hP⟩)
    · intro h2
      show ab_Z m_SF_all _ _ _ 15 [_, _] [] _
      obtain ⟨e, he, rfl⟩ := inR_nat (bI_n0 h2)
      refine ab_go ok_SF_all 3 rfl ?_
      show ab_Z m_SF_all _ _ _ 18 [_, _] [_, _] _
      refine ab_cl ok_SF_all rfl [_, _] [] rfl ⟨_, _, rfl, rfl, Or.inl ⟨_, _, rfl, rfl⟩⟩ (Nat.le_of_ble_eq_true rfl) (t_Pl_sealerFor (d + 3) fm X s1 t1 hC1 hP (show e < 6 by omega)) ?_
      rintro _ _ ⟨rfl, s2, rfl, hk2⟩
      show ab_Z m_SF_all _ _ _ 19 [_, _] [_] _
      rw [bstV_h hk.toH]
      refine ab_go ok_SF_all 1 rfl ?_
      show ab_Z m_SF_all _ _ _ 21 [_, _] [_] _
      exact ab_rI ok_SF_all rfl (⟨by rw [if_pos (bI_n0 h2), nI_c (by omega)], s2, t1, rfl, hk5 s2 hk2, ht, POk_50 hk2 (fun _ _ => rfl) hP⟩)
theorem t_SF_fewest (hC : CI s nc nd nt PT PG PB PF) (hI : PlI s t PT PB nc nd) (w : Int32) : ab_T g_SF_fewest (d + 7) (0, 0) [.ref 0, .int w] (HA fm X s t) (fun v h => v = some (.int (if w = 0 ∨ w = 1 then (if fewA s PT nc nd = -2 then -2 else if w = 0 then bcF (fewA s PT nc nd) else fewA s PT nc nd) else -1)) ∧ ∃ s' t', h = HA fm X s' t' ∧ KpP s s' ∧ TpP t t' ∧ (w = 0 ∨ w = 1 → POk s' t' PT PB nc nd) ∧ (¬ (w = 0 ∨ w = 1) → s' = s ∧ t' = t)) := by
  refine ab_T_of (M := m_SF_fewest) rfl rfl (Nat.le_of_ble_eq_true rfl) ?_
  show ab_Z m_SF_fewest _ _ _ 0 [_, _, _] [] _
  refine ab_go ok_SF_fewest 1 rfl ?_
  show ab_Z m_SF_fewest _ _ _ 1 [_, _, _] [_] _
  refine ab_cl ok_SF_fewest rfl [_] [] rfl rfl (Nat.le_of_ble_eq_true rfl) (t_SF_isHow (d + 6) _ w) ?_
  rintro _ _ ⟨rfl, rfl⟩
  show ab_Z m_SF_fewest _ _ _ 2 [_, _, _] [_] _
  refine ab_br ok_SF_fewest rfl rfl ?_ ?_
  · intro h1
    show ab_Z m_SF_fewest _ _ _ 3 [_, _, _] [] _
    have hw := bI_0.mp h1
    refine ab_go ok_SF_fewest 1 rfl ?_
    show ab_Z m_SF_fewest _ _ _ 4 [_, _, _] [_] _
    exact ab_rI ok_SF_fewest rfl (⟨by rw [if_neg hw], s, t, rfl, KpP.rf s, TpP.rf t, fun z => absurd z hw, fun _ => ⟨rfl, rfl⟩⟩)
  · intro h1
    show ab_Z m_SF_fewest _ _ _ 5 [_, _, _] [] _
    have hw := bI_n0 h1
    rw [if_pos hw]
    refine ab_go ok_SF_fewest 2 rfl ?_
    show ab_Z m_SF_fewest _ _ _ 7 [_, _, _] [_] _
    refine ab_cl ok_SF_fewest rfl [_] [] rfl ⟨_, _, rfl, rfl, Or.inl ⟨_, _, rfl, rfl⟩⟩ (Nat.le_of_ble_eq_true rfl) (t_Pl_prepare d fm X s t hC hI) ?_
    rintro _ _ ⟨rfl, s1, t1, rfl, hk, ht, h45, hP⟩
    show ab_Z m_SF_fewest _ _ _ 8 [_, _, _] [] _
    have hC1 := CI_h hk.toH hC
    refine ab_go ok_SF_fewest 2 rfl ?_
    show ab_Z m_SF_fewest _ _ _ 10 [_, _, _] [_] _
    refine ab_cl ok_SF_fewest rfl [_] [] rfl ⟨_, _, rfl, rfl, Or.inl ⟨_, _, rfl, rfl⟩⟩ (Nat.le_of_ble_eq_true rfl) (t_Pl_fewestClerks (d + 4) fm X s1 t1 hC1 hP) ?_
    rintro _ _ ⟨rfl, t2, rfl, ht2⟩
    show ab_Z m_SF_fewest _ _ _ 11 [_, _, _] [_] _
    rw [fewA_h hk.toH]
    have hT : TpP t t2 := fun x p q => (ht2 x q).trans (ht x p q)
    have hP2 := POk_50 (s := s1) (s' := s1) (fun _ _ => rfl) ht2 hP
    refine ab_go ok_SF_fewest 3 rfl ?_
    show ab_Z m_SF_fewest _ _ _ 14 [_, _, _] [_, _] _
    refine ab_br ok_SF_fewest rfl rfl ?_ ?_
    · intro h2
      show ab_Z m_SF_fewest _ _ _ 15 [_, _, _] [] _
      refine ab_go ok_SF_fewest 2 rfl ?_
      show ab_Z m_SF_fewest _ _ _ 20 [_, _, _] [_] _
      exact ab_rI ok_SF_fewest rfl (⟨by rw [if_pos h2], s1, t2, rfl, hk, hT, fun _ => hP2, fun z => absurd hw z⟩)
    · intro h2
      show ab_Z m_SF_fewest _ _ _ 17 [_, _, _] [] _
      rw [if_neg h2]
      refine ab_go ok_SF_fewest 2 rfl ?_
      show ab_Z m_SF_fewest _ _ _ 19 [_, _, _] [_, _] _
      refine ab_cl ok_SF_fewest rfl [_, _] [] rfl rfl (Nat.le_of_ble_eq_true rfl) (t_SF_countOrBits (d + 5) _ _ _) ?_
      rintro _ _ ⟨rfl, rfl⟩
      show ab_Z m_SF_fewest _ _ _ 20 [_, _, _] [_] _
      exact ab_rI ok_SF_fewest rfl (⟨rfl, s1, t2, rfl, hk, hT, fun _ => hP2, fun z => absurd hw z⟩)
end

