def TrF (b : Nat → Int32) (L : Nat) (s : Nat → Nat → Int32) (t : Nat → Nat → Int64) (N : Nat) : Prop := TrS b L s t N ∧ N ≤ 401 ∧ (N = 401 ∨ 1 ≤ N ∧ tkK b L (tkP b L (N - 1)) = 0) ∧ ∀ n, n + 1 < N → tkK b L (tkP b L n) ≠ 0
section
variable (d : Nat) (fm : Value) (X : Nat × (Nat → Int32)) (s : Nat → Nat → Int32) (t : Nat → Nat → Int64)
theorem t_Mo_cut {b : Nat → Int32} (hb : b = s 83) {L : Nat} (hW : WdR t) (hL : s 81 4 = nI L) (h2 : L ≤ 2000) : ab_T g_Mo_cut (d + 2) (0, 0) [.ref 81] (HA fm X s t) (fun v h => v = none ∧ ∃ s' t' N, h = HA fm X s' t' ∧ KU s s' ∧ KUt t t' ∧ TrF b L s' t' N) := by
  generalize hPo : (fun v h => v = none ∧ ∃ s' t' N, h = HA fm X s' t' ∧ KU s s' ∧ KUt t t' ∧ TrF b L s' t' N : Option Value → ab_H → Prop) = Po
  have main : ∀ m i N s1 t1, L - i ≤ m → i ≤ L → N ≤ 401 → KU s s1 → KUt t t1 → TrS b L s1 t1 N → (∀ n, n < N → tkK b L (tkP b L n) ≠ 0) → tkP b L N = bkE b L i → ab_Z m_Mo_cut (d + 2) (0, 0) Po 5 [some (.ref 81), some (.int (nI i)), none, none, none, none, none, none] [] (HA fm X s1 t1) := by
    intro m
    induction m with
    | zero =>
      intro i N s1 t1 hm hi hN4 k1 k2 hT hn hp
      have hiL : i = L := by omega
      subst hiL
      have hb1 : b = s1 83 := hb.trans (funext fun k => (k1 83 k (by decide) (by decide) (by decide) (fun z => absurd z.1 (by decide))).symm)
      have hL1 : s1 81 4 = nI i := (k1 81 4 (by decide) (by decide) (by decide) (fun z => absurd z.2 (by decide))).trans hL
      have hpL : tkP b i N = i := by
        rw [hp]
        have := bk_E b (Nat.le_refl i)
        have := this.1
        have := (bk_E b (Nat.le_refl i)).2.1
        omega
      refine ab_go ok_Mo_cut 3 rfl ?_
      show ab_Z m_Mo_cut _ _ _ 8 [_, _, _, _, _, _, _, _] [_, _] _
      rw [hT.1]
      refine ab_br ok_Mo_cut rfl rfl ?_ ?_
      · intro h1
        show ab_Z m_Mo_cut _ _ _ 165 [_, _, _, _, _, _, _, _] [] _
        have h1' := (nI_ltI (a := 400) (by decide) (show N < 2 ^ 31 by omega)).mp h1
        have fin : Po none (HA fm X s1 t1) := by
          rw [← hPo]
          exact ⟨rfl, s1, t1, N, rfl, k1, k2, hT, hN4, Or.inl (by omega), fun n h => hn n (by omega)⟩
        exact ab_rV ok_Mo_cut rfl (fin)
      · intro h1
        show ab_Z m_Mo_cut _ _ _ 9 [_, _, _, _, _, _, _, _] [] _
        have h1' : N ≤ 400 := by
          rcases Nat.lt_or_ge 400 N with h | h
          · exact absurd ((nI_ltI (a := 400) (by decide) (show N < 2 ^ 31 by omega)).mpr h) h1
          · exact h
        refine ab_go ok_Mo_cut 2 rfl ?_
        show ab_Z m_Mo_cut _ _ _ 11 [_, _, _, _, _, _, _, _] [_, _] _
        refine ab_cl ok_Mo_cut rfl [_, _] [] rfl ⟨_, _, rfl, rfl, Or.inl ⟨_, _, rfl, rfl⟩⟩ (Nat.le_of_ble_eq_true rfl) (t_Mo_byteAt (d + 1) fm X s1 t1 hL1 h2 (show i < 100000 by omega) _ rfl) ?_
        rintro _ _ ⟨rfl, rfl⟩
        show ab_Z m_Mo_cut _ _ _ 12 [_, _, _, _, _, _, _, _] [_] _
        refine ab_go ok_Mo_cut 4 rfl ?_
        show ab_Z m_Mo_cut _ _ _ 16 [_, _, _, _, _, _, _, _] [_, _] _
        rw [hL1]
        refine ab_br ok_Mo_cut rfl rfl ?_ ?_
        · intro h3
          show ab_Z m_Mo_cut _ _ _ 25 [_, _, _, _, _, _, _, _] [] _
          exact absurd ((nI_ltI (by omega) (by omega)).mp h3) (Nat.lt_irrefl _)
        · intro h3
          show ab_Z m_Mo_cut _ _ _ 17 [_, _, _, _, _, _, _, _] [] _
          refine ab_go ok_Mo_cut 6 rfl ?_
          show ab_Z m_Mo_cut _ _ _ 23 [_, _, _, _, _, _, _, _] [_, _, _, _, _] _
          rw [hL1]
          refine ab_cl ok_Mo_cut rfl [_, _, _, _, _] [] rfl ⟨_, _, rfl, rfl, Or.inl ⟨_, _, rfl, rfl⟩⟩ (Nat.le_of_ble_eq_true rfl) (t_Mo_token (d + 1) fm X s1 t1 hT.1 (by omega) _ _ _ _) ?_
          rintro _ _ ⟨rfl, rfl⟩
          show ab_Z m_Mo_cut _ _ _ 24 [_, _, _, _, _, _, _, _] [] _
          have hK : tkK b i (tkP b i N) = 0 := tkK_end b (by omega)
          have hadd := TrS.add (v := 0) (w := 0) hT (fun z => by rw [hK] at z; omega) (fun z => by rw [hK] at z; omega)
          have fin : Po none (HA fm X (tokS s1 N 0 (nI i) 0) (ab_up t1 87 N 0)) := by
            rw [← hPo]
            rw [hpL, show tkK b i i = 0 from tkK_end b (Nat.le_refl _)] at hadd
            exact ⟨rfl, _, _, N + 1, rfl, k1.tr (tokS_k s1 N _ _ _), k2.tr (fun c hc' => ab_up_o hc'), hadd, by omega, Or.inr ⟨by omega, by rw [Nat.add_sub_cancel]; exact hK⟩, fun n h => hn n (by omega)⟩
          exact ab_rV ok_Mo_cut rfl (fin)
    | succ m ih =>
      intro i N s1 t1 hm hi hN4 k1 k2 hT hn hp
      by_cases hiL : i = L
      · exact ih i N s1 t1 (by omega) hi hN4 k1 k2 hT hn hp
      · have hlt : i < L := by omega
        have hb1 : b = s1 83 := hb.trans (funext fun k => (k1 83 k (by decide) (by decide) (by decide) (fun z => absurd z.1 (by decide))).symm)
        have hL1 : s1 81 4 = nI L := (k1 81 4 (by decide) (by decide) (by decide) (fun z => absurd z.2 (by decide))).trans hL
        have hW1 : WdR t1 := fun k w hw => by rw [k2 88 (by decide)]; exact hW k w hw
        have hc256 := ch_lt (b := b) hlt
        have hchR : chR b L i = nI (chN b L i) := by rw [chR_I b hlt]; exact (chI_in hc256).1
        have e : ∀ m : Nat, m < 256 → (nI (chN b L i) = nI m ↔ chN b L i = m) := fun m hm => nI_eq (by omega) (by omega)
        refine ab_go ok_Mo_cut 3 rfl ?_
        show ab_Z m_Mo_cut _ _ _ 8 [_, _, _, _, _, _, _, _] [_, _] _
        rw [hT.1]
        refine ab_br ok_Mo_cut rfl rfl ?_ ?_
        · intro h1
          show ab_Z m_Mo_cut _ _ _ 165 [_, _, _, _, _, _, _, _] [] _
          have h1' := (nI_ltI (a := 400) (by decide) (show N < 2 ^ 31 by omega)).mp h1
          have fin : Po none (HA fm X s1 t1) := by
            rw [← hPo]
            exact ⟨rfl, s1, t1, N, rfl, k1, k2, hT, hN4, Or.inl (by omega), fun n h => hn n (by omega)⟩
          exact ab_rV ok_Mo_cut rfl (fin)
        · intro h1
          show ab_Z m_Mo_cut _ _ _ 9 [_, _, _, _, _, _, _, _] [] _
          have h1' : N ≤ 400 := by
            rcases Nat.lt_or_ge 400 N with h | h
            · exact absurd ((nI_ltI (a := 400) (by decide) (show N < 2 ^ 31 by omega)).mpr h) h1
            · exact h
          refine ab_go ok_Mo_cut 2 rfl ?_
          show ab_Z m_Mo_cut _ _ _ 11 [_, _, _, _, _, _, _, _] [_, _] _
          refine ab_cl ok_Mo_cut rfl [_, _] [] rfl ⟨_, _, rfl, rfl, Or.inl ⟨_, _, rfl, rfl⟩⟩ (Nat.le_of_ble_eq_true rfl) (t_Mo_byteAt (d + 1) fm X s1 t1 hL1 h2 (show i < 100000 by omega) _ rfl) ?_
          rintro _ _ ⟨rfl, rfl⟩
          show ab_Z m_Mo_cut _ _ _ 12 [_, _, _, _, _, _, _, _] [_] _
          rw [← hb1, hchR]
          refine ab_go ok_Mo_cut 4 rfl ?_
          show ab_Z m_Mo_cut _ _ _ 16 [_, _, _, _, _, _, _, _] [_, _] _
          rw [hL1]
          refine ab_br ok_Mo_cut rfl rfl ?_ ?_
          · intro h3
            show ab_Z m_Mo_cut _ _ _ 25 [_, _, _, _, _, _, _, _] [] _
            have blank : blC (chN b L i) = true → ab_Z m_Mo_cut (d + 2) (0, 0) Po 37 [some (.ref 81), some (.int (nI i)), some (.int (nI (chN b L i))), none, none, none, none, none] [] (HA fm X s1 t1) := by
              intro hbl
              refine ab_go ok_Mo_cut 3 rfl ?_
              show ab_Z m_Mo_cut _ _ _ 5 [_, _, _, _, _, _, _, _] [] _
              rw [← nI_succ]
              exact ih (i + 1) N s1 t1 (by omega) (by omega) hN4 k1 k2 hT hn (by rw [hp, bk_s hlt hbl])
            refine ab_go ok_Mo_cut 2 rfl ?_
            show ab_Z m_Mo_cut _ _ _ 27 [_, _, _, _, _, _, _, _] [_, _] _
            refine ab_br ok_Mo_cut rfl rfl ?_ ?_
            · intro g1
              show ab_Z m_Mo_cut _ _ _ 37 [_, _, _, _, _, _, _, _] [] _
              exact blank (by rw [(e 9 (by decide)).mp g1]; rfl)
            · intro g1
              show ab_Z m_Mo_cut _ _ _ 28 [_, _, _, _, _, _, _, _] [] _
              refine ab_go ok_Mo_cut 2 rfl ?_
              show ab_Z m_Mo_cut _ _ _ 30 [_, _, _, _, _, _, _, _] [_, _] _
              refine ab_br ok_Mo_cut rfl rfl ?_ ?_
              · intro g2
                show ab_Z m_Mo_cut _ _ _ 37 [_, _, _, _, _, _, _, _] [] _
                exact blank (by rw [(e 10 (by decide)).mp g2]; rfl)
              · intro g2
                show ab_Z m_Mo_cut _ _ _ 31 [_, _, _, _, _, _, _, _] [] _
                refine ab_go ok_Mo_cut 2 rfl ?_
                show ab_Z m_Mo_cut _ _ _ 33 [_, _, _, _, _, _, _, _] [_, _] _
                refine ab_br ok_Mo_cut rfl rfl ?_ ?_
                · intro g3
                  show ab_Z m_Mo_cut _ _ _ 37 [_, _, _, _, _, _, _, _] [] _
                  exact blank (by rw [(e 13 (by decide)).mp g3]; rfl)
                · intro g3
                  show ab_Z m_Mo_cut _ _ _ 34 [_, _, _, _, _, _, _, _] [] _
                  refine ab_go ok_Mo_cut 2 rfl ?_
                  show ab_Z m_Mo_cut _ _ _ 36 [_, _, _, _, _, _, _, _] [_, _] _
                  refine ab_br ok_Mo_cut rfl rfl ?_ ?_
                  · intro g4
                    show ab_Z m_Mo_cut _ _ _ 37 [_, _, _, _, _, _, _, _] [] _
                    exact blank (by rw [(e 32 (by decide)).mp g4]; rfl)
                  · intro g4
                    show ab_Z m_Mo_cut _ _ _ 39 [_, _, _, _, _, _, _, _] [] _
                    have hnb : blC (chN b L i) = false := by
                      unfold blC
                      rw [decide_eq_false (fun z => g1 ((e 9 (by decide)).mpr z)), decide_eq_false (fun z => g2 ((e 10 (by decide)).mpr z)), decide_eq_false (fun z => g3 ((e 13 (by decide)).mpr z)), decide_eq_false (fun z => g4 ((e 32 (by decide)).mpr z))]
                      rfl
                    have hpi : tkP b L N = i := by rw [hp, bk_n hlt hnb]
                    have htl := tkE_le b hlt
                    have hKn : tkK b L (tkP b L N) ≠ 0 → ∀ n, n < N + 1 → tkK b L (tkP b L n) ≠ 0 := fun hk n hnn => by
                      by_cases hnN : n = N
                      · rw [hnN]; exact hk
                      · exact hn n (by omega)
                    have next : ∀ (v : Int32) (w : Int64) (x : Int32), tkK b L i ≠ 0 → (tkK b L i = 3 → v = nI (tkV' b L i)) → (tkK b L i = 2 → w = lN (cdL 27 (tkN b L i))) → x = nI (tkE b L i) → ab_Z m_Mo_cut (d + 2) (0, 0) Po 5 [some (.ref 81), some (.int x), none, none, none, none, none, none] [] (HA fm X (tokS s1 N (nI (rkF (tkK b L i))) (nI i) v) (ab_up t1 87 N w)) := by
                      intro v w x hk0 hv hw hx
                      subst hx
                      have hadd := TrS.add (v := v) (w := w) hT (by rw [hpi]; exact hv) (by rw [hpi]; exact hw)
                      rw [hpi] at hadd
                      exact ih (tkE b L i) (N + 1) _ _ (by omega) htl.2 (by omega) (k1.tr (tokS_k s1 N _ _ _)) (k2.tr (fun c hc' => ab_up_o hc')) hadd (hKn (by rw [hpi]; exact hk0)) (by rw [tkP, hpi])
                    clear g1 g2 g3 g4 blank
                    refine ab_go ok_Mo_cut 1 rfl ?_
                    show ab_Z m_Mo_cut _ _ _ 40 [_, _, _, _, _, _, _, _] [_] _
                    refine ab_cl ok_Mo_cut rfl [_] [] rfl rfl (Nat.le_of_ble_eq_true rfl) (t_Mo_isLetter (d + 1) _ _) ?_
                    rintro _ _ ⟨rfl, rfl⟩
                    show ab_Z m_Mo_cut _ _ _ 41 [_, _, _, _, _, _, _, _] [_] _
                    rw [← hchR, lt_R, hchR]
                    refine ab_br ok_Mo_cut rfl rfl ?_ ?_
                    · intro g5
                      show ab_Z m_Mo_cut _ _ _ 105 [_, _, _, _, _, _, _, _] [] _
                      have hnl := bB_0.mp g5
                      have hnl' : ¬ ltC (chN b L i) = true := by rw [hnl]; decide
                      refine ab_go ok_Mo_cut 1 rfl ?_
                      show ab_Z m_Mo_cut _ _ _ 106 [_, _, _, _, _, _, _, _] [_] _
                      refine ab_cl ok_Mo_cut rfl [_] [] rfl rfl (Nat.le_of_ble_eq_true rfl) (t_Mo_isDigit (d + 1) _ _) ?_
                      rintro _ _ ⟨rfl, rfl⟩
                      show ab_Z m_Mo_cut _ _ _ 107 [_, _, _, _, _, _, _, _] [_] _
                      rw [← hchR, dg_R, hchR]
                      refine ab_br ok_Mo_cut rfl rfl ?_ ?_
                      · intro g6
                        show ab_Z m_Mo_cut _ _ _ 152 [_, _, _, _, _, _, _, _] [] _
                        have hnd := bB_0.mp g6
                        have hnd' : ¬ dgC (chN b L i) = true := by rw [hnd]; decide
                        have hE : tkE b L i = i + 1 := by unfold tkE; rw [if_neg hnl', if_neg hnd']
                        have hK0 : tkK b L i = if sgC (chN b L i) = true then chN b L i else 1 := by
                          unfold tkK; rw [if_neg hnl', if_neg hnd', if_neg (by omega)]
                        have hKc : tkK b L i ≠ 0 ∧ tkK b L i ≠ 3 ∧ tkK b L i ≠ 2 := by
                          rw [hK0]
                          by_cases hs : sgC (chN b L i) = true
                          · rw [if_pos hs]
                            refine ⟨fun z => ?_, fun z => ?_, fun z => ?_⟩ <;> (rw [z] at hs; exact absurd hs (by decide))
                          · rw [if_neg hs]; omega
                        refine ab_go ok_Mo_cut 8 rfl ?_
                        show ab_Z m_Mo_cut _ _ _ 160 [_, _, _, _, _, _, _, _] [_, _, _, _, _, _] _
                        refine ab_cl ok_Mo_cut rfl [_, _] [_, _, _, _] rfl ⟨_, _, rfl, rfl, Or.inl ⟨_, _, rfl, rfl⟩⟩ (Nat.le_of_ble_eq_true rfl) (t_Mo_byteAt (d + 1) fm X s1 t1 hL1 h2 (show i + 1 < 100000 by omega) _ (nI_succ i).symm) ?_
                        rintro _ _ ⟨rfl, rfl⟩
                        show ab_Z m_Mo_cut _ _ _ 161 [_, _, _, _, _, _, _, _] [_, _, _, _, _] _
                        refine ab_cl ok_Mo_cut rfl [_, _, _, _] [_] rfl ⟨_, _, rfl, rfl, Or.inl ⟨_, _, rfl, rfl⟩⟩ (Nat.le_of_ble_eq_true rfl) (t_Mo_sign d fm X s1 t1 hT.1 (by omega) hc256 _ _) ?_
                        rintro _ _ ⟨rfl, rfl⟩
                        show ab_Z m_Mo_cut _ _ _ 162 [_, _, _, _, _, _, _, _] [_, _] _
                        refine ab_go ok_Mo_cut 3 rfl ?_
                        show ab_Z m_Mo_cut _ _ _ 5 [_, _, _, _, _, _, _, _] [] _
                        have := next 0 0 (nI i + 1) hKc.1 (fun z => absurd z hKc.2.1) (fun z => absurd z hKc.2.2) (by rw [hE, nI_succ])
                        rw [hK0] at this
                        exact this
                      · intro g6
                        show ab_Z m_Mo_cut _ _ _ 108 [_, _, _, _, _, _, _, _] [] _
                        have hdg := bB_n0 g6
                        have hr := dg_E b (show i ≤ L by omega)
                        have hK : tkK b L i = if 4 < dgE b L i - i then 1 else 3 := by unfold tkK; rw [if_neg hnl', if_pos hdg]
                        have hE : tkE b L i = dgE b L i := by unfold tkE; rw [if_neg hnl', if_pos hdg]
                        have hVa : tkV' b L i = ivN b L i (dgE b L i - i) := rfl
                        rw [hE] at next
                        generalize dgE b L i = f at hr hK hVa next
                        obtain ⟨r1, r2, r3, r4⟩ := hr
                        refine ab_go ok_Mo_cut 4 rfl ?_
                        show ab_Z m_Mo_cut _ _ _ 112 [_, _, _, _, _, _, _, _] [] _
                        have := lp_dn (f - i) (fun k => ab_Z m_Mo_cut (d + 2) (0, 0) Po 112 [some (.ref 81), some (.int (nI i)), none, some (.int (nI k)), some (.int (nI (ivN b L i (if k < 4 then k else 4)))), none, none, none] [] (HA fm X s1 t1)) ?_ ?_
                        · exact this
                        · have tail : ∀ kd : Int32, kd = nI (rkF (tkK b L i)) → ab_Z m_Mo_cut (d + 2) (0, 0) Po 143 [some (.ref 81), some (.int (nI i)), none, some (.int (nI (f - i))), some (.int (nI (ivN b L i (if f - i < 4 then f - i else 4)))), none, none, none] [.int kd, .ref 81] (HA fm X s1 t1) := by
                            intro kd hkd
                            subst hkd
                            refine ab_go ok_Mo_cut 3 rfl ?_
                            show ab_Z m_Mo_cut _ _ _ 146 [_, _, _, _, _, _, _, _] [_, _, _, _, _] _
                            refine ab_cl ok_Mo_cut rfl [_, _, _, _, _] [] rfl ⟨_, _, rfl, rfl, Or.inl ⟨_, _, rfl, rfl⟩⟩ (Nat.le_of_ble_eq_true rfl) (t_Mo_token (d + 1) fm X s1 t1 hT.1 (by omega) _ _ _ _) ?_
                            rintro _ _ ⟨rfl, rfl⟩
                            show ab_Z m_Mo_cut _ _ _ 147 [_, _, _, _, _, _, _, _] [] _
                            refine ab_go ok_Mo_cut 6 rfl ?_
                            show ab_Z m_Mo_cut _ _ _ 5 [_, _, _, _, _, _, _, _] [] _
                            refine next _ _ _ (by rw [hK]; split <;> omega) (fun z => ?_) (fun z => by rw [hK] at z; split at z <;> omega) (by rw [nI_add]; congr 1; omega)
                            rw [hK] at z
                            split at z
                            · omega
                            · rw [hVa]
                              congr 2
                              split <;> omega
                          refine ab_go ok_Mo_cut 4 rfl ?_
                          show ab_Z m_Mo_cut _ _ _ 116 [_, _, _, _, _, _, _, _] [_, _] _
                          refine ab_cl ok_Mo_cut rfl [_, _] [] rfl ⟨_, _, rfl, rfl, Or.inl ⟨_, _, rfl, rfl⟩⟩ (Nat.le_of_ble_eq_true rfl) (t_Mo_byteAt (d + 1) fm X s1 t1 hL1 h2 (show f < 100000 by omega) _ (by rw [nI_add]; congr 1; omega)) ?_
                          rintro _ _ ⟨rfl, rfl⟩
                          show ab_Z m_Mo_cut _ _ _ 117 [_, _, _, _, _, _, _, _] [_] _
                          refine ab_cl ok_Mo_cut rfl [_] [] rfl rfl (Nat.le_of_ble_eq_true rfl) (t_Mo_isDigit (d + 1) _ _) ?_
                          rintro _ _ ⟨rfl, rfl⟩
                          show ab_Z m_Mo_cut _ _ _ 118 [_, _, _, _, _, _, _, _] [_] _
                          rw [← hb1, dg_R, r4]
                          refine ab_go ok_Mo_cut 1 rfl ?_
                          show ab_Z m_Mo_cut _ _ _ 136 [_, _, _, _, _, _, _, _] [] _
                          refine ab_go ok_Mo_cut 3 rfl ?_
                          show ab_Z m_Mo_cut _ _ _ 139 [_, _, _, _, _, _, _, _] [_, _, _] _
                          refine ab_br ok_Mo_cut rfl rfl ?_ ?_
                          · intro g7
                            show ab_Z m_Mo_cut _ _ _ 142 [_, _, _, _, _, _, _, _] [_] _
                            have g7' := (nI_leI (show f - i < 2 ^ 31 by omega) (show 4 < 2 ^ 31 by decide)).mp g7
                            refine ab_go ok_Mo_cut 1 rfl ?_
                            show ab_Z m_Mo_cut _ _ _ 143 [_, _, _, _, _, _, _, _] [_, _] _
                            exact tail _ (by rw [hK, if_neg (by omega)]; rfl)
                          · intro g7
                            show ab_Z m_Mo_cut _ _ _ 140 [_, _, _, _, _, _, _, _] [_] _
                            have g7' : ¬ f - i ≤ 4 := fun z => g7 ((nI_leI (show f - i < 2 ^ 31 by omega) (show 4 < 2 ^ 31 by decide)).mpr z)
                            refine ab_go ok_Mo_cut 2 rfl ?_
                            show ab_Z m_Mo_cut _ _ _ 143 [_, _, _, _, _, _, _, _] [_, _] _
                            exact tail _ (by rw [hK, if_pos (by omega)]; rfl)
                        · intro k hk ihk
                          have hdk := r3 (i + k) (by omega) (by omega)
                          have hdr := dgC_r hdk
                          have hck : chR b L (i + k) = nI (chN b L (i + k)) := by rw [chR_I b (show i + k < L by omega)]; exact (chI_in (by omega)).1
                          rw [nI_succ k] at ihk
                          refine ab_go ok_Mo_cut 4 rfl ?_
                          show ab_Z m_Mo_cut _ _ _ 116 [_, _, _, _, _, _, _, _] [_, _] _
                          refine ab_cl ok_Mo_cut rfl [_, _] [] rfl ⟨_, _, rfl, rfl, Or.inl ⟨_, _, rfl, rfl⟩⟩ (Nat.le_of_ble_eq_true rfl) (t_Mo_byteAt (d + 1) fm X s1 t1 hL1 h2 (show i + k < 100000 by omega) _ (by rw [nI_add])) ?_
                          rintro _ _ ⟨rfl, rfl⟩
                          show ab_Z m_Mo_cut _ _ _ 117 [_, _, _, _, _, _, _, _] [_] _
                          refine ab_cl ok_Mo_cut rfl [_] [] rfl rfl (Nat.le_of_ble_eq_true rfl) (t_Mo_isDigit (d + 1) _ _) ?_
                          rintro _ _ ⟨rfl, rfl⟩
                          show ab_Z m_Mo_cut _ _ _ 118 [_, _, _, _, _, _, _, _] [_] _
                          rw [← hb1, dg_R, hdk]
                          refine ab_go ok_Mo_cut 1 rfl ?_
                          show ab_Z m_Mo_cut _ _ _ 119 [_, _, _, _, _, _, _, _] [] _
                          refine ab_go ok_Mo_cut 2 rfl ?_
                          show ab_Z m_Mo_cut _ _ _ 121 [_, _, _, _, _, _, _, _] [_, _] _
                          refine ab_br ok_Mo_cut rfl rfl ?_ ?_
                          · intro g7
                            show ab_Z m_Mo_cut _ _ _ 134 [_, _, _, _, _, _, _, _] [] _
                            have g7' := (nI_leI (show 4 < 2 ^ 31 by decide) (show k < 2 ^ 31 by omega)).mp g7
                            rw [if_neg (show ¬ k + 1 < 4 by omega)] at ihk
                            rw [if_neg (show ¬ k < 4 by omega)]
                            refine ab_go ok_Mo_cut 2 rfl ?_
                            show ab_Z m_Mo_cut _ _ _ 112 [_, _, _, _, _, _, _, _] [] _
                            exact ihk
                          · intro g7
                            show ab_Z m_Mo_cut _ _ _ 122 [_, _, _, _, _, _, _, _] [] _
                            have g7' : k < 4 := by
                              rcases Nat.lt_or_ge k 4 with h | h
                              · exact h
                              · exact absurd ((nI_leI (show 4 < 2 ^ 31 by decide) (show k < 2 ^ 31 by omega)).mpr h) g7
                            refine ab_go ok_Mo_cut 7 rfl ?_
                            show ab_Z m_Mo_cut _ _ _ 129 [_, _, _, _, _, _, _, _] [_, _, _] _
                            refine ab_cl ok_Mo_cut rfl [_, _] [_] rfl ⟨_, _, rfl, rfl, Or.inl ⟨_, _, rfl, rfl⟩⟩ (Nat.le_of_ble_eq_true rfl) (t_Mo_byteAt (d + 1) fm X s1 t1 hL1 h2 (show i + k < 100000 by omega) _ (by rw [nI_add])) ?_
                            rintro _ _ ⟨rfl, rfl⟩
                            show ab_Z m_Mo_cut _ _ _ 130 [_, _, _, _, _, _, _, _] [_, _] _
                            rw [← hb1, hck]
                            refine ab_go ok_Mo_cut 6 rfl ?_
                            show ab_Z m_Mo_cut _ _ _ 112 [_, _, _, _, _, _, _, _] [] _
                            rw [if_pos g7', LL10, pk_mul, nI_add, show (48 : Int32) = nI 48 from rfl, pk_sub (by omega), show 10 * ivN b L i k + chN b L (i + k) - 48 = ivN b L i (k + 1) from by rw [ivN]; omega]
                            rw [show (if k + 1 < 4 then k + 1 else 4) = k + 1 from by split <;> omega] at ihk
                            exact ihk
                    · intro g5
                      show ab_Z m_Mo_cut _ _ _ 42 [_, _, _, _, _, _, _, _] [] _
                      have hlt5 := bB_n0 g5
                      have hr := lt_E b (show i ≤ L by omega)
                      have hK : tkK b L i = if 8 < ltE b L i - i then 1 else wkF (ltL b L i (ltE b L i - i)) wdL 0 := by unfold tkK; rw [if_pos hlt5]
                      have hE : tkE b L i = ltE b L i := by unfold tkE; rw [if_pos hlt5]
                      have hNm : tkN b L i = ltL b L i (ltE b L i - i) := rfl
                      rw [hE] at next
                      generalize ltE b L i = f at hr hK hNm next
                      have hrr := hr
                      obtain ⟨r1, r2, r3, r4⟩ := hr
                      refine ab_go ok_Mo_cut 4 rfl ?_
                      show ab_Z m_Mo_cut _ _ _ 46 [_, _, _, _, _, _, _, _] [] _
                      have := lp_dn (f - i) (fun k => ab_Z m_Mo_cut (d + 2) (0, 0) Po 46 [some (.ref 81), some (.int (nI i)), none, some (.int (nI k)), some (.long (lN (cdL 27 (ltL b L i (if k < 8 then k else 8))))), none, none, none] [] (HA fm X s1 t1)) ?_ ?_
                      · exact this
                      · have tail : ∀ (kd : Int32) (l7 : Option Value), kd = nI (rkF (tkK b L i)) → ab_Z m_Mo_cut (d + 2) (0, 0) Po 94 [some (.ref 81), some (.int (nI i)), none, some (.int (nI (f - i))), some (.long (lN (cdL 27 (ltL b L i (if f - i < 8 then f - i else 8))))), none, some (.int kd), l7] [] (HA fm X s1 t1) := by
                          intro kd l7 hkd
                          subst hkd
                          refine ab_go ok_Mo_cut 5 rfl ?_
                          show ab_Z m_Mo_cut _ _ _ 99 [_, _, _, _, _, _, _, _] [_, _, _, _, _] _
                          refine ab_cl ok_Mo_cut rfl [_, _, _, _, _] [] rfl ⟨_, _, rfl, rfl, Or.inl ⟨_, _, rfl, rfl⟩⟩ (Nat.le_of_ble_eq_true rfl) (t_Mo_token (d + 1) fm X s1 t1 hT.1 (by omega) _ _ _ _) ?_
                          rintro _ _ ⟨rfl, rfl⟩
                          show ab_Z m_Mo_cut _ _ _ 100 [_, _, _, _, _, _, _, _] [] _
                          refine ab_go ok_Mo_cut 6 rfl ?_
                          show ab_Z m_Mo_cut _ _ _ 5 [_, _, _, _, _, _, _, _] [] _
                          refine next _ _ _ ?_ (fun z => ?_) (fun z => ?_) (by rw [nI_add]; congr 1; omega)
                          · rw [hK]
                            split
                            · omega
                            · rcases wk_r (ltL b L i (f - i)) wdL 0 with h3 | ⟨j, -, h3, -⟩ <;> omega
                          · rw [hK] at z
                            split at z
                            · omega
                            · rcases wk_r (ltL b L i (f - i)) wdL 0 with h3 | ⟨j, -, h3, -⟩ <;> omega
                          · rw [hK] at z
                            split at z
                            · omega
                            · rw [hNm]
                              congr 3
                              split <;> omega
                        refine ab_go ok_Mo_cut 4 rfl ?_
                        show ab_Z m_Mo_cut _ _ _ 50 [_, _, _, _, _, _, _, _] [_, _] _
                        refine ab_cl ok_Mo_cut rfl [_, _] [] rfl ⟨_, _, rfl, rfl, Or.inl ⟨_, _, rfl, rfl⟩⟩ (Nat.le_of_ble_eq_true rfl) (t_Mo_byteAt (d + 1) fm X s1 t1 hL1 h2 (show f < 100000 by omega) _ (by rw [nI_add]; congr 1; omega)) ?_
                        rintro _ _ ⟨rfl, rfl⟩
                        show ab_Z m_Mo_cut _ _ _ 51 [_, _, _, _, _, _, _, _] [_] _
                        refine ab_cl ok_Mo_cut rfl [_] [] rfl rfl (Nat.le_of_ble_eq_true rfl) (t_Mo_isLetter (d + 1) _ _) ?_
                        rintro _ _ ⟨rfl, rfl⟩
                        show ab_Z m_Mo_cut _ _ _ 52 [_, _, _, _, _, _, _, _] [_] _
                        rw [← hb1, lt_R, r4]
                        refine ab_go ok_Mo_cut 1 rfl ?_
                        show ab_Z m_Mo_cut _ _ _ 66 [_, _, _, _, _, _, _, _] [] _
                        refine ab_go ok_Mo_cut 2 rfl ?_
                        show ab_Z m_Mo_cut _ _ _ 68 [_, _, _, _, _, _, _, _] [_, _] _
                        refine ab_br ok_Mo_cut rfl rfl ?_ ?_
                        · intro g7
                          show ab_Z m_Mo_cut _ _ _ 71 [_, _, _, _, _, _, _, _] [] _
                          have g7' := (nI_leI (show f - i < 2 ^ 31 by omega) (show 8 < 2 ^ 31 by decide)).mp g7
                          rw [if_neg (show ¬ 8 < f - i by omega)] at hK
                          refine ab_go ok_Mo_cut 4 rfl ?_
                          show ab_Z m_Mo_cut _ _ _ 75 [_, _, _, _, _, _, _, _] [_, _] _
                          refine ab_br ok_Mo_cut rfl rfl ?_ ?_
                          · intro g8
                            show ab_Z m_Mo_cut _ _ _ 94 [_, _, _, _, _, _, _, _] [] _
                            exact absurd ((nI_ltI (show 8 < 2 ^ 31 by decide) (show f - i < 2 ^ 31 by omega)).mp g8) (by omega)
                          · intro g8
                            show ab_Z m_Mo_cut _ _ _ 76 [_, _, _, _, _, _, _, _] [] _
                            obtain ⟨l, hl⟩ : ∃ l, l = ltL b L i (f - i) := ⟨_, rfl⟩
                            have hl26 : ∀ x ∈ l, 1 ≤ x ∧ x ≤ 26 := by rw [hl]; exact ltL_m hrr
                            have hl8 : l.length ≤ 8 := by rw [hl, ltL_len]; exact g7'
                            have hlx : ltL b L i (if f - i < 8 then f - i else 8) = l := by rw [hl]; congr 1; split <;> omega
                            rw [← hl] at hK
                            rw [hlx] at tail ⊢
                            have hK2 : tkK b L i = 2 ∨ ∃ j, j < 21 ∧ tkK b L i = 256 + j ∧ wdL[j]? = some l := by
                              rw [hK]
                              rcases wk_r l wdL 0 with h3 | ⟨j, q1, q2, q3, -⟩
                              · exact Or.inl h3
                              · exact Or.inr ⟨j, q1, by rw [q2, Nat.zero_add], q3⟩
                            refine ab_go ok_Mo_cut 2 rfl ?_
                            show ab_Z m_Mo_cut _ _ _ 78 [_, _, _, _, _, _, _, _] [] _
                            have h21 := lp_dn 21 (fun k => ab_Z m_Mo_cut (d + 2) (0, 0) Po 78 [some (.ref 81), some (.int (nI i)), none, some (.int (nI (f - i))), some (.long (lN (cdL 27 l))), none, some (.int (nI (if 256 ≤ tkK b L i ∧ tkK b L i < 256 + k then tkK b L i - 236 else 1))), some (.int (nI k))] [] (HA fm X s1 t1)) ?_ ?_
                            · rw [if_neg (show ¬ (256 ≤ tkK b L i ∧ tkK b L i < 256 + 0) by omega)] at h21
                              exact h21
                            · refine ab_go ok_Mo_cut 2 rfl ?_
                              show ab_Z m_Mo_cut _ _ _ 80 [_, _, _, _, _, _, _, _] [_, _] _
                              refine ab_go ok_Mo_cut 1 rfl ?_
                              show ab_Z m_Mo_cut _ _ _ 94 [_, _, _, _, _, _, _, _] [] _
                              refine tail _ _ ?_
                              rcases hK2 with h3 | ⟨j, q1, q2, -⟩
                              · rw [h3]; rfl
                              · rw [q2, if_pos (by omega), rk_w, show 256 + j - 236 = 20 + j by omega]
                            · intro k hk ihk
                              obtain ⟨wd, hwd⟩ : ∃ w, wdL[k]? = some w := ⟨_, List.getElem?_eq_getElem (show k < wdL.length from hk)⟩
                              have hwok := wd_ok wd (List.mem_of_getElem? hwd)
                              have hce := cd_eq (B := 27) (by decide) (by decide) hwok.1 hwok.2 hl26 hl8
                              rw [nI_succ k] at ihk
                              refine ab_go ok_Mo_cut 2 rfl ?_
                              show ab_Z m_Mo_cut _ _ _ 80 [_, _, _, _, _, _, _, _] [_, _] _
                              refine ab_br ok_Mo_cut rfl rfl ?_ ?_
                              · intro g9
                                show ab_Z m_Mo_cut _ _ _ 94 [_, _, _, _, _, _, _, _] [] _
                                exact absurd g9 (lp_in (N := 21) (by decide) hk)
                              · intro g9
                                show ab_Z m_Mo_cut _ _ _ 81 [_, _, _, _, _, _, _, _] [] _
                                refine ab_go ok_Mo_cut 3 rfl ?_
                                show ab_Z m_Mo_cut _ _ _ 84 [_, _, _, _, _, _, _, _] [_, _] _
                                refine ab_la ok_Mo_cut rfl rfl (k := k) (by first | rfl | (simp only [LL1, LL2, LL3, LL4, LL5, LL6, LL7, LL8, LL10, LL15, LL18, LL20, LL21, LL22, LL23, LL24, LL32, LL39, LL40, LL130, LL420, pk_mul, nI_add]; done) | (simp only [LL1, LL2, LL3, LL4, LL5, LL6, LL7, LL8, LL10, LL15, LL18, LL20, LL21, LL22, LL23, LL24, LL32, LL39, LL40, LL130, LL420, pk_mul, nI_add]; congr 1; omega)) (by omega) (Nat.le_of_ble_eq_true rfl) ?_
                                show ab_Z m_Mo_cut _ _ _ 85 [_, _, _, _, _, _, _, _] [_] _
                                rw [hW1 k wd hwd]
                                refine ab_go ok_Mo_cut 2 rfl ?_
                                show ab_Z m_Mo_cut _ _ _ 87 [_, _, _, _, _, _, _, _] [_] _
                                refine ab_br ok_Mo_cut rfl rfl ?_ ?_
                                · intro g10
                                  show ab_Z m_Mo_cut _ _ _ 88 [_, _, _, _, _, _, _, _] [] _
                                  have g10' := hce.mp (lcmp_eq.mp g10)
                                  subst g10'
                                  have hKk : tkK b L i = 256 + k := by
                                    rw [hK]
                                    exact wk_at hwd (fun j hj z => by
                                      have := wd_nd j (by omega) k hk (z.trans hwd.symm)
                                      omega)
                                  refine ab_go ok_Mo_cut 6 rfl ?_
                                  show ab_Z m_Mo_cut _ _ _ 78 [_, _, _, _, _, _, _, _] [] _
                                  rw [hKk, if_pos (by omega), show 256 + k - 236 = 20 + k by omega, ← nI_add] at ihk
                                  exact ihk
                                · intro g10
                                  show ab_Z m_Mo_cut _ _ _ 92 [_, _, _, _, _, _, _, _] [] _
                                  have g10' : wd ≠ l := fun z => g10 (lcmp_eq.mpr (hce.mpr z))
                                  rw [show (if 256 ≤ tkK b L i ∧ tkK b L i < 256 + (k + 1) then tkK b L i - 236 else 1) = (if 256 ≤ tkK b L i ∧ tkK b L i < 256 + k then tkK b L i - 236 else 1) from by
                                    rcases hK2 with h3 | ⟨j, q1, q2, q3⟩
                                    · rw [h3]; rfl
                                    · have hjk : j ≠ k := fun z => by
                                        rw [z, hwd] at q3
                                        exact g10' (Option.some.inj q3)
                                      by_cases hj2 : j < k
                                      · rw [if_pos (by omega), if_pos (by omega)]
                                      · rw [if_neg (by omega), if_neg (by omega)]] at ihk
                                  refine ab_go ok_Mo_cut 2 rfl ?_
                                  show ab_Z m_Mo_cut _ _ _ 78 [_, _, _, _, _, _, _, _] [] _
                                  exact ihk
                        · intro g7
                          show ab_Z m_Mo_cut _ _ _ 69 [_, _, _, _, _, _, _, _] [] _
                          have g7' : ¬ f - i ≤ 8 := fun z => g7 ((nI_leI (show f - i < 2 ^ 31 by omega) (show 8 < 2 ^ 31 by decide)).mpr z)
                          refine ab_go ok_Mo_cut 5 rfl ?_
                          show ab_Z m_Mo_cut _ _ _ 75 [_, _, _, _, _, _, _, _] [_, _] _
                          refine ab_br ok_Mo_cut rfl rfl ?_ ?_
                          · intro g8
                            show ab_Z m_Mo_cut _ _ _ 94 [_, _, _, _, _, _, _, _] [] _
                            exact tail _ _ (by rw [hK, if_pos (by omega)]; rfl)
                          · intro g8
                            show ab_Z m_Mo_cut _ _ _ 76 [_, _, _, _, _, _, _, _] [] _
                            exact absurd ((nI_ltI (show 8 < 2 ^ 31 by decide) (show f - i < 2 ^ 31 by omega)).mpr (by omega)) g8
                      · intro k hk ihk
                        have hlk := r3 (i + k) (by omega) (by omega)
                        have hlr := ltC_r hlk
                        have hck : chR b L (i + k) = nI (chN b L (i + k)) := by rw [chR_I b (show i + k < L by omega)]; exact (chI_in (by omega)).1
                        rw [nI_succ k] at ihk
                        refine ab_go ok_Mo_cut 4 rfl ?_
                        show ab_Z m_Mo_cut _ _ _ 50 [_, _, _, _, _, _, _, _] [_, _] _
                        refine ab_cl ok_Mo_cut rfl [_, _] [] rfl ⟨_, _, rfl, rfl, Or.inl ⟨_, _, rfl, rfl⟩⟩ (Nat.le_of_ble_eq_true rfl) (t_Mo_byteAt (d + 1) fm X s1 t1 hL1 h2 (show i + k < 100000 by omega) _ (by rw [nI_add])) ?_
                        rintro _ _ ⟨rfl, rfl⟩
                        show ab_Z m_Mo_cut _ _ _ 51 [_, _, _, _, _, _, _, _] [_] _
                        refine ab_cl ok_Mo_cut rfl [_] [] rfl rfl (Nat.le_of_ble_eq_true rfl) (t_Mo_isLetter (d + 1) _ _) ?_
                        rintro _ _ ⟨rfl, rfl⟩
                        show ab_Z m_Mo_cut _ _ _ 52 [_, _, _, _, _, _, _, _] [_] _
                        rw [← hb1, lt_R, hlk]
                        refine ab_go ok_Mo_cut 1 rfl ?_
                        show ab_Z m_Mo_cut _ _ _ 53 [_, _, _, _, _, _, _, _] [] _
                        refine ab_go ok_Mo_cut 2 rfl ?_
                        show ab_Z m_Mo_cut _ _ _ 55 [_, _, _, _, _, _, _, _] [_, _] _
                        refine ab_br ok_Mo_cut rfl rfl ?_ ?_
                        · intro g7
                          show ab_Z m_Mo_cut _ _ _ 64 [_, _, _, _, _, _, _, _] [] _
                          have g7' := (nI_leI (show 8 < 2 ^ 31 by decide) (show k < 2 ^ 31 by omega)).mp g7
                          rw [if_neg (show ¬ k + 1 < 8 by omega)] at ihk
                          rw [if_neg (show ¬ k < 8 by omega)]
                          refine ab_go ok_Mo_cut 2 rfl ?_
                          show ab_Z m_Mo_cut _ _ _ 46 [_, _, _, _, _, _, _, _] [] _
                          exact ihk
                        · intro g7
                          show ab_Z m_Mo_cut _ _ _ 56 [_, _, _, _, _, _, _, _] [] _
                          have g7' : k < 8 := by
                            rcases Nat.lt_or_ge k 8 with h | h
                            · exact h
                            · exact absurd ((nI_leI (show 8 < 2 ^ 31 by decide) (show k < 2 ^ 31 by omega)).mpr h) g7
                          refine ab_go ok_Mo_cut 5 rfl ?_
                          show ab_Z m_Mo_cut _ _ _ 61 [_, _, _, _, _, _, _, _] [_, _, _] _
                          refine ab_cl ok_Mo_cut rfl [_, _] [_] rfl ⟨_, _, rfl, rfl, Or.inl ⟨_, _, rfl, rfl⟩⟩ (Nat.le_of_ble_eq_true rfl) (t_Mo_byteAt (d + 1) fm X s1 t1 hL1 h2 (show i + k < 100000 by omega) _ (by rw [nI_add])) ?_
                          rintro _ _ ⟨rfl, rfl⟩
                          show ab_Z m_Mo_cut _ _ _ 62 [_, _, _, _, _, _, _, _] [_, _] _
                          rw [← hb1, hck, if_pos g7']
                          refine ab_cl ok_Mo_cut rfl [_, _] [] rfl rfl (Nat.le_of_ble_eq_true rfl) (t_Mo_appends (d + 1) _ hlr.1 (by omega)) ?_
                          rintro _ _ ⟨rfl, rfl⟩
                          show ab_Z m_Mo_cut _ _ _ 63 [_, _, _, _, _, _, _, _] [_] _
                          refine ab_go ok_Mo_cut 3 rfl ?_
                          show ab_Z m_Mo_cut _ _ _ 46 [_, _, _, _, _, _, _, _] [] _
                          rw [← cdL_s]
                          rw [show (if k + 1 < 8 then k + 1 else 8) = k + 1 from by split <;> omega] at ihk
                          exact ihk
          · intro h3
            show ab_Z m_Mo_cut _ _ _ 17 [_, _, _, _, _, _, _, _] [] _
            exact absurd ((nI_ltI (by omega) (by omega)).mpr hlt) h3
  refine ab_T_of (M := m_Mo_cut) rfl rfl (Nat.le_of_ble_eq_true rfl) ?_
  show ab_Z m_Mo_cut _ _ _ 0 [_, _, _, _, _, _, _, _] [] _
  refine ab_go ok_Mo_cut 5 rfl ?_
  show ab_Z m_Mo_cut _ _ _ 5 [_, _, _, _, _, _, _, _] [] _
  exact main L 0 0 (ab_up s 81 10 0) t (by omega) (Nat.zero_le _) (by omega) (fun c k _ _ _ h4 => by
      by_cases hc : c = 81
      · subst hc; rw [ab_up_n (fun z => h4 ⟨rfl, z⟩)]
      · rw [ab_up_o hc]) (fun _ _ => rfl) ⟨ab_up_s .., fun n hn => absurd hn (by omega)⟩ (fun n hn => absurd hn (by omega)) rfl
end

