/-! the face, fourth part: who it was, counts -/
section
variable (d : Nat) (fm : Value) (X : Nat × (Nat → Int32)) (s : Nat → Nat → Int32) (t : Nat → Nat → Int64)
variable {nc nd nt : Nat} {PT PG PB PF : List (List Ins)}
theorem t_SF_suspects (hC : CI s nc nd nt PT PG PB PF) {k e : Nat} (hk : k ≤ 20) (hf : ∀ i, i < k → ∃ f, f < 3 ∧ s 42 i = nI f) (he : e < nd) : ab_T g_SF_suspects (d + 5) (0, 0) [.ref 0, .int (nI k), .int (nI e)] (HA fm X s t) (P2 (nI (bitsN (susB s PT nd e k) nc)) fm X s t) := by
  have h5 : nc ≤ 5 := hC.1.2.1
  have h6 : nd ≤ 6 := hC.1.2.2.2.1
  refine ab_T_of (M := m_SF_suspects) rfl rfl (Nat.le_of_ble_eq_true rfl) ?_
  show ab_Z m_SF_suspects _ _ _ 0 [_, _, _, _, _] [] _
  refine ab_go ok_SF_suspects 4 rfl ?_
  show ab_Z m_SF_suspects _ _ _ 4 [_, _, _, _, _] [] _
  refine lp_dn nc (fun c => ∀ s1, Kp2 s s1 → ab_Z m_SF_suspects (d + 5) (0, 0) (P2 (nI (bitsN (susB s PT nd e k) nc)) fm X s t) 4 [some (.ref 0), some (.int (nI k)), some (.int (nI e)), some (.int (nI (bitsN (susB s PT nd e k) c))), some (.int (nI c))] [] (HA fm X s1 t)) ?_ ?_ s (Kp2.rf s)
  · intro s1 hs
    refine ab_go ok_SF_suspects 5 rfl ?_
    show ab_Z m_SF_suspects _ _ _ 9 [_, _, _, _, _] [_, _] _
    rw [hs 14 11 rfl (by decide), hC.1.1]
    refine ab_br ok_SF_suspects rfl rfl ?_ ?_
    · intro h1
      show ab_Z m_SF_suspects _ _ _ 32 [_, _, _, _, _] [] _
      refine ab_go ok_SF_suspects 1 rfl ?_
      show ab_Z m_SF_suspects _ _ _ 33 [_, _, _, _, _] [_] _
      exact ab_rI ok_SF_suspects rfl (⟨rfl, s1, rfl, hs⟩)
    · intro h1
      show ab_Z m_SF_suspects _ _ _ 10 [_, _, _, _, _] [] _
      exact absurd (lp_out nc) h1
  · intro c hc ih s1 hs
    have hC1 := hC.1.kp hs
    refine ab_go ok_SF_suspects 5 rfl ?_
    show ab_Z m_SF_suspects _ _ _ 9 [_, _, _, _, _] [_, _] _
    rw [hs 14 11 rfl (by decide), hC.1.1]
    refine ab_br ok_SF_suspects rfl rfl ?_ ?_
    · intro h1
      show ab_Z m_SF_suspects _ _ _ 32 [_, _, _, _, _] [] _
      exact absurd h1 (lp_in (by omega) hc)
    · intro h1
      show ab_Z m_SF_suspects _ _ _ 10 [_, _, _, _, _] [] _
      refine ab_go ok_SF_suspects 4 rfl ?_
      show ab_Z m_SF_suspects _ _ _ 14 [_, _, _, _, _] [_, _, _] _
      refine ab_cl ok_SF_suspects rfl [_, _, _] [] rfl ⟨_, _, rfl, rfl, Or.inl ⟨_, _, rfl, rfl⟩⟩ (Nat.le_of_ble_eq_true rfl) (t_Ha_canSeal d fm X s1 t hC1.2.2.2.2.2.2.1 hC1.2.2.1 h6 (show c < 5 by omega) he) ?_
      rintro _ _ ⟨rfl, s2, rfl, hk2, hTV⟩
      show ab_Z m_SF_suspects _ _ _ 15 [_, _, _, _, _] [_] _
      rw [canB_kp hs]
      have hs2 := hs.tr hk2
      have ih2 := ih s2 hs2
      refine ab_br ok_SF_suspects rfl rfl ?_ ?_
      · intro h2
        show ab_Z m_SF_suspects _ _ _ 30 [_, _, _, _, _] [] _
        rw [bitsN_no (susB s PT nd e k) (n := c) (by rw [susB, bB_0.mp h2]; rfl), nI_succ] at ih2
        refine ab_go ok_SF_suspects 2 rfl ?_
        show ab_Z m_SF_suspects _ _ _ 4 [_, _, _, _, _] [] _
        exact ih2
      · intro h2
        show ab_Z m_SF_suspects _ _ _ 16 [_, _, _, _, _] [] _
        refine ab_go ok_SF_suspects 6 rfl ?_
        show ab_Z m_SF_suspects _ _ _ 22 [_, _, _, _, _] [_, _, _] _
        have hf2 : fitB s2 (s2 13) k = fitB s (TV s PT nd c e) k := fitB_cg (hs2.row (fun _ => rfl) (by decide)) (hs2.row (fun _ => rfl) (by decide)) (hs2.row (fun _ => rfl) (by decide)) hf (fun f h3 => by rw [hTV f h3, TV_kp hs])
        refine ab_cl ok_SF_suspects rfl [_, _, _] [] rfl ⟨_, _, rfl, rfl, Or.inl ⟨_, _, rfl, rfl⟩⟩ (Nat.le_of_ble_eq_true rfl) (t_Tl_fits (d + 3) fm X s2 t hk (fun i hi => by rw [hs2 42 i rfl (by decide)]; exact hf i hi)) ?_
        rintro _ _ ⟨rfl, rfl⟩
        show ab_Z m_SF_suspects _ _ _ 23 [_, _, _, _, _] [_] _
        rw [hf2]
        refine ab_br ok_SF_suspects rfl rfl ?_ ?_
        · intro h3
          show ab_Z m_SF_suspects _ _ _ 30 [_, _, _, _, _] [] _
          rw [bitsN_no (susB s PT nd e k) (n := c) (by rw [susB, bB_0.mp h3, Bool.and_false]), nI_succ] at ih2
          refine ab_go ok_SF_suspects 2 rfl ?_
          show ab_Z m_SF_suspects _ _ _ 4 [_, _, _, _, _] [] _
          exact ih2
        · intro h3
          show ab_Z m_SF_suspects _ _ _ 24 [_, _, _, _, _] [] _
          rw [← bitsN_or (susB s PT nd e k) (n := c) (by omega) (by rw [susB, bB_n0 h2, bB_n0 h3]; rfl), nI_succ] at ih2
          refine ab_go ok_SF_suspects 8 rfl ?_
          show ab_Z m_SF_suspects _ _ _ 4 [_, _, _, _, _] [] _
          exact ih2
theorem t_SF_leftAtWorst (hC : CI s nc nd nt PT PG PB PF) (b v : Int32) {e f : Nat} (he : e < nd) (hf : f < 3) : ab_T g_SF_leftAtWorst (d + 5) (0, 0) [.ref 0, .int b, .int (nI e), .int (nI f), .int v] (HA fm X s t) (P2 (wrsV s PT nc nd e v b f) fm X s t) := by
  have h5 : nc ≤ 5 := hC.1.2.1
  have h6 : nd ≤ 6 := hC.1.2.2.2.1
  refine ab_T_of (M := m_SF_leftAtWorst) rfl rfl (Nat.le_of_ble_eq_true rfl) ?_
  show ab_Z m_SF_leftAtWorst _ _ _ 0 [_, _, _, _, _, _, _, _] [] _
  refine ab_go ok_SF_leftAtWorst 6 rfl ?_
  show ab_Z m_SF_leftAtWorst _ _ _ 6 [_, _, _, _, _, _, _, _] [] _
  refine lp_dn nc (fun c => ∀ s1, Kp2 s s1 → ab_Z m_SF_leftAtWorst (d + 5) (0, 0) (P2 (wrsV s PT nc nd e v b f) fm X s t) 6 [some (.ref 0), some (.int b), some (.int (nI e)), some (.int (nI f)), some (.int v), some (.int (nI (cntN (soN s PT nd e f v b) c))), some (.int (nI (cntN (noN s PT nd e f v b) c))), some (.int (nI c))] [] (HA fm X s1 t)) ?_ ?_ s (Kp2.rf s)
  · intro s1 hs
    refine ab_go ok_SF_leftAtWorst 5 rfl ?_
    show ab_Z m_SF_leftAtWorst _ _ _ 11 [_, _, _, _, _, _, _, _] [_, _] _
    rw [hs 14 11 rfl (by decide), hC.1.1]
    refine ab_br ok_SF_leftAtWorst rfl rfl ?_ ?_
    · intro h1
      show ab_Z m_SF_leftAtWorst _ _ _ 29 [_, _, _, _, _, _, _, _] [] _
      refine ab_go ok_SF_leftAtWorst 2 rfl ?_
      show ab_Z m_SF_leftAtWorst _ _ _ 31 [_, _, _, _, _, _, _, _] [_, _] _
      refine ab_cl ok_SF_leftAtWorst rfl [_, _] [] rfl rfl (Nat.le_of_ble_eq_true rfl) (t_JM_max (d + 4) _ _ _) ?_
      rintro _ _ ⟨rfl, rfl⟩
      show ab_Z m_SF_leftAtWorst _ _ _ 32 [_, _, _, _, _, _, _, _] [_] _
      exact ab_rI ok_SF_leftAtWorst rfl (⟨rfl, s1, rfl, hs⟩)
    · intro h1
      show ab_Z m_SF_leftAtWorst _ _ _ 12 [_, _, _, _, _, _, _, _] [] _
      exact absurd (lp_out nc) h1
  · intro c hc ih s1 hs
    have hC1 := hC.1.kp hs
    refine ab_go ok_SF_leftAtWorst 5 rfl ?_
    show ab_Z m_SF_leftAtWorst _ _ _ 11 [_, _, _, _, _, _, _, _] [_, _] _
    rw [hs 14 11 rfl (by decide), hC.1.1]
    refine ab_br ok_SF_leftAtWorst rfl rfl ?_ ?_
    · intro h1
      show ab_Z m_SF_leftAtWorst _ _ _ 29 [_, _, _, _, _, _, _, _] [] _
      exact absurd h1 (lp_in (by omega) hc)
    · intro h1
      show ab_Z m_SF_leftAtWorst _ _ _ 12 [_, _, _, _, _, _, _, _] [] _
      refine ab_go ok_SF_leftAtWorst 2 rfl ?_
      show ab_Z m_SF_leftAtWorst _ _ _ 14 [_, _, _, _, _, _, _, _] [_, _] _
      refine ab_cl ok_SF_leftAtWorst rfl [_, _] [] rfl rfl (Nat.le_of_ble_eq_true rfl) (t_SF_hasBit (d + 4) _ b (nI c)) ?_
      rintro _ _ ⟨rfl, rfl⟩
      show ab_Z m_SF_leftAtWorst _ _ _ 15 [_, _, _, _, _, _, _, _] [_] _
      refine ab_br ok_SF_leftAtWorst rfl rfl ?_ ?_
      · intro h2
        show ab_Z m_SF_leftAtWorst _ _ _ 27 [_, _, _, _, _, _, _, _] [] _
        have ih2 := ih s1 hs
        rw [cntN, cntN, show soN s PT nd e f v b c = false from by rw [soN, bB_0.mp h2]; rfl, show noN s PT nd e f v b c = false from by rw [noN, bB_0.mp h2]; rfl, nI_succ] at ih2
        refine ab_go ok_SF_leftAtWorst 2 rfl ?_
        show ab_Z m_SF_leftAtWorst _ _ _ 6 [_, _, _, _, _, _, _, _] [] _
        exact ih2
      · intro h2
        show ab_Z m_SF_leftAtWorst _ _ _ 16 [_, _, _, _, _, _, _, _] [] _
        refine ab_go ok_SF_leftAtWorst 5 rfl ?_
        show ab_Z m_SF_leftAtWorst _ _ _ 21 [_, _, _, _, _, _, _, _] [_, _, _, _] _
        refine ab_cl ok_SF_leftAtWorst rfl [_, _, _, _] [] rfl ⟨_, _, rfl, rfl, Or.inl ⟨_, _, rfl, rfl⟩⟩ (Nat.le_of_ble_eq_true rfl) (t_Ha_takesNow d fm X s1 t hC1.2.2.2.2.2.2.1 hC1.2.2.1 h6 (show c < 5 by omega) (show e < 6 by omega) hf) ?_
        rintro _ _ ⟨rfl, s2, rfl, hk⟩
        show ab_Z m_SF_leftAtWorst _ _ _ 22 [_, _, _, _, _, _, _, _] [_] _
        rw [TV_kp hs]
        refine ab_go ok_SF_leftAtWorst 1 rfl ?_
        show ab_Z m_SF_leftAtWorst _ _ _ 23 [_, _, _, _, _, _, _, _] [_, _] _
        have ih2 := ih s2 (hs.tr hk.to2)
        refine ab_br ok_SF_leftAtWorst rfl rfl ?_ ?_
        · intro h3
          show ab_Z m_SF_leftAtWorst _ _ _ 26 [_, _, _, _, _, _, _, _] [] _
          rw [cntN, cntN, show soN s PT nd e f v b c = false from by rw [soN, decide_eq_true h3]; simp, show noN s PT nd e f v b c = true from by rw [noN, bB_n0 h2, decide_eq_true h3]; rfl, nI_succ] at ih2
          refine ab_go ok_SF_leftAtWorst 3 rfl ?_
          show ab_Z m_SF_leftAtWorst _ _ _ 6 [_, _, _, _, _, _, _, _] [] _
          rw [← nI_succ (cntN (noN s PT nd e f v b) c)]
          exact ih2
        · intro h3
          show ab_Z m_SF_leftAtWorst _ _ _ 24 [_, _, _, _, _, _, _, _] [] _
          rw [cntN, cntN, show soN s PT nd e f v b c = true from by rw [soN, bB_n0 h2, decide_eq_false h3]; rfl, show noN s PT nd e f v b c = false from by rw [noN, decide_eq_false h3]; simp, nI_succ] at ih2
          refine ab_go ok_SF_leftAtWorst 4 rfl ?_
          show ab_Z m_SF_leftAtWorst _ _ _ 6 [_, _, _, _, _, _, _, _] [] _
          rw [← nI_succ (cntN (soN s PT nd e f v b) c)]
          exact ih2
/-- what was told -/
def TI (s : Nat → Nat → Int32) (nk : Nat) : Prop := s 41 3 = nI nk ∧ nk ≤ 20 ∧ ∀ i, i < nk → ∃ f, f < 3 ∧ s 42 i = nI f
abbrev whoOk (s : Nat → Nat → Int32) (nk nd : Nat) (x y : Int32) : Prop := inR (nk + 1) x ∧ (inR nd y ∧ openB s y.toNatClampNeg = true)
theorem t_SF_who (hC : CI s nc nd nt PT PG PB PF) {nk : Nat} (hT : TI s nk) (x y w : Int32) : ab_T g_SF_who (d + 6) (0, 0) [.ref 0, .int x, .int y, .int w] (HA fm X s t) (P2 (if whoOk s nk nd x y ∧ (w = 0 ∨ w = 1) then (if w = 0 then bcF (nI (bitsN (susB s PT nd y.toNatClampNeg x.toNatClampNeg) nc)) else nI (bitsN (susB s PT nd y.toNatClampNeg x.toNatClampNeg) nc)) else -1) fm X s t) := by
  have h6 : nd ≤ 6 := hC.1.2.2.2.1
  obtain ⟨hT1, hT2, hT3⟩ := hT
  refine ab_T_of (M := m_SF_who) rfl rfl (Nat.le_of_ble_eq_true rfl) ?_
  show ab_Z m_SF_who _ _ _ 0 [_, _, _, _] [] _
  refine ab_go ok_SF_who 3 rfl ?_
  show ab_Z m_SF_who _ _ _ 3 [_, _, _, _] [_, _] _
  refine ab_cl ok_SF_who rfl [_, _] [] rfl ⟨_, _, rfl, rfl, Or.inl ⟨_, _, rfl, rfl⟩⟩ (Nat.le_of_ble_eq_true rfl) (t_Tl_isKnown (d + 5) fm X s t x) ?_
  rintro _ _ ⟨rfl, rfl⟩
  show ab_Z m_SF_who _ _ _ 4 [_, _, _, _] [_] _
  rw [hT1, nI_t (by omega)]
  refine ab_br ok_SF_who rfl rfl ?_ ?_
  · intro h1
    show ab_Z m_SF_who _ _ _ 13 [_, _, _, _] [] _
    refine ab_go ok_SF_who 1 rfl ?_
    show ab_Z m_SF_who _ _ _ 14 [_, _, _, _] [_] _
    exact ab_rI ok_SF_who rfl (⟨by rw [if_neg (fun q => bI_0.mp h1 ⟨q.1.1.1, by have := q.1.1.2; omega⟩)], s, rfl, Kp2.rf s⟩)
  · intro h1
    show ab_Z m_SF_who _ _ _ 5 [_, _, _, _] [] _
    have g1 := bI_n0 h1
    refine ab_go ok_SF_who 3 rfl ?_
    show ab_Z m_SF_who _ _ _ 8 [_, _, _, _] [_, _] _
    refine ab_cl ok_SF_who rfl [_, _] [] rfl ⟨_, _, rfl, rfl, Or.inl ⟨_, _, rfl, rfl⟩⟩ (Nat.le_of_ble_eq_true rfl) (t_Ha_isOpen (d + 4) fm X s t y hC.1.2.2.1 h6) ?_
    rintro _ _ ⟨rfl, rfl⟩
    show ab_Z m_SF_who _ _ _ 9 [_, _, _, _] [_] _
    refine ab_br ok_SF_who rfl rfl ?_ ?_
    · intro h2
      show ab_Z m_SF_who _ _ _ 13 [_, _, _, _] [] _
      refine ab_go ok_SF_who 1 rfl ?_
      show ab_Z m_SF_who _ _ _ 14 [_, _, _, _] [_] _
      exact ab_rI ok_SF_who rfl (⟨by rw [if_neg (fun q => bI_0.mp h2 ⟨q.1.2.1, of_decide_eq_true q.1.2.2⟩)], s, rfl, Kp2.rf s⟩)
    · intro h2
      show ab_Z m_SF_who _ _ _ 10 [_, _, _, _] [] _
      have g2 := bI_n0 h2
      refine ab_go ok_SF_who 1 rfl ?_
      show ab_Z m_SF_who _ _ _ 11 [_, _, _, _] [_] _
      refine ab_cl ok_SF_who rfl [_] [] rfl rfl (Nat.le_of_ble_eq_true rfl) (t_SF_isHow (d + 5) _ w) ?_
      rintro _ _ ⟨rfl, rfl⟩
      show ab_Z m_SF_who _ _ _ 12 [_, _, _, _] [_] _
      refine ab_br ok_SF_who rfl rfl ?_ ?_
      · intro h3
        show ab_Z m_SF_who _ _ _ 13 [_, _, _, _] [] _
        refine ab_go ok_SF_who 1 rfl ?_
        show ab_Z m_SF_who _ _ _ 14 [_, _, _, _] [_] _
        exact ab_rI ok_SF_who rfl (⟨by rw [if_neg (fun q => bI_0.mp h3 q.2)], s, rfl, Kp2.rf s⟩)
      · intro h3
        show ab_Z m_SF_who _ _ _ 15 [_, _, _, _] [] _
        have g3 := bI_n0 h3
        rw [if_pos ⟨⟨⟨g1.1, by omega⟩, ⟨g2.1, decide_eq_true g2.2⟩⟩, g3⟩]
        clear h1 h2 h3
        obtain ⟨k, hk, rfl⟩ := inR_nat (n := nk + 1) (x := x) ⟨g1.1, by omega⟩
        obtain ⟨e, he, rfl⟩ := inR_nat g2.1
        rw [nI_c (n := k) (by omega), nI_c (n := e) (by omega)]
        refine ab_go ok_SF_who 3 rfl ?_
        show ab_Z m_SF_who _ _ _ 18 [_, _, _, _] [_, _, _] _
        refine ab_cl ok_SF_who rfl [_, _, _] [] rfl ⟨_, _, rfl, rfl, Or.inl ⟨_, _, rfl, rfl⟩⟩ (Nat.le_of_ble_eq_true rfl) (t_SF_suspects d fm X s t hC (show k ≤ 20 by omega) (fun i hi => hT3 i (by omega)) he) ?_
        rintro _ _ ⟨rfl, s1, rfl, hs⟩
        show ab_Z m_SF_who _ _ _ 19 [_, _, _, _] [_] _
        refine ab_go ok_SF_who 1 rfl ?_
        show ab_Z m_SF_who _ _ _ 20 [_, _, _, _] [_, _] _
        refine ab_cl ok_SF_who rfl [_, _] [] rfl rfl (Nat.le_of_ble_eq_true rfl) (t_SF_countOrBits (d + 4) _ _ w) ?_
        rintro _ _ ⟨rfl, rfl⟩
        show ab_Z m_SF_who _ _ _ 21 [_, _, _, _] [_] _
        exact ab_rI ok_SF_who rfl (⟨rfl, s1, rfl, hs⟩)
theorem t_SF_look (hC : CI s nc nd nt PT PG PB PF) {nk : Nat} (hT : TI s nk) (x y v : Int32) : ab_T g_SF_look (d + 6) (0, 0) [.ref 0, .int x, .int y, .int v] (HA fm X s t) (P2 (if whoOk s nk nd x y ∧ inR 10 v then (if bitsN (susB s PT nd y.toNatClampNeg x.toNatClampNeg) nc = 0 then -2 else (lokV (wrsV s PT nc nd y.toNatClampNeg v (nI (bitsN (susB s PT nd y.toNatClampNeg x.toNatClampNeg) nc))) (nI (bitsN (susB s PT nd y.toNatClampNeg x.toNatClampNeg) nc)) 3).1) else -1) fm X s t) := by
  have h5 : nc ≤ 5 := hC.1.2.1
  have h6 : nd ≤ 6 := hC.1.2.2.2.1
  obtain ⟨hT1, hT2, hT3⟩ := hT
  refine ab_T_of (M := m_SF_look) rfl rfl (Nat.le_of_ble_eq_true rfl) ?_
  show ab_Z m_SF_look _ _ _ 0 [_, _, _, _, _, _, _, _, _] [] _
  refine ab_go ok_SF_look 3 rfl ?_
  show ab_Z m_SF_look _ _ _ 3 [_, _, _, _, _, _, _, _, _] [_, _] _
  refine ab_cl ok_SF_look rfl [_, _] [] rfl ⟨_, _, rfl, rfl, Or.inl ⟨_, _, rfl, rfl⟩⟩ (Nat.le_of_ble_eq_true rfl) (t_Tl_isKnown (d + 5) fm X s t x) ?_
  rintro _ _ ⟨rfl, rfl⟩
  show ab_Z m_SF_look _ _ _ 4 [_, _, _, _, _, _, _, _, _] [_] _
  rw [hT1, nI_t (by omega)]
  refine ab_br ok_SF_look rfl rfl ?_ ?_
  · intro h1
    show ab_Z m_SF_look _ _ _ 13 [_, _, _, _, _, _, _, _, _] [] _
    refine ab_go ok_SF_look 1 rfl ?_
    show ab_Z m_SF_look _ _ _ 14 [_, _, _, _, _, _, _, _, _] [_] _
    exact ab_rI ok_SF_look rfl (⟨by rw [if_neg (fun q => bI_0.mp h1 ⟨q.1.1.1, by have := q.1.1.2; omega⟩)], s, rfl, Kp2.rf s⟩)
  · intro h1
    show ab_Z m_SF_look _ _ _ 5 [_, _, _, _, _, _, _, _, _] [] _
    have g1 := bI_n0 h1
    refine ab_go ok_SF_look 3 rfl ?_
    show ab_Z m_SF_look _ _ _ 8 [_, _, _, _, _, _, _, _, _] [_, _] _
    refine ab_cl ok_SF_look rfl [_, _] [] rfl ⟨_, _, rfl, rfl, Or.inl ⟨_, _, rfl, rfl⟩⟩ (Nat.le_of_ble_eq_true rfl) (t_Ha_isOpen (d + 4) fm X s t y hC.1.2.2.1 h6) ?_
    rintro _ _ ⟨rfl, rfl⟩
    show ab_Z m_SF_look _ _ _ 9 [_, _, _, _, _, _, _, _, _] [_] _
    refine ab_br ok_SF_look rfl rfl ?_ ?_
    · intro h2
      show ab_Z m_SF_look _ _ _ 13 [_, _, _, _, _, _, _, _, _] [] _
      refine ab_go ok_SF_look 1 rfl ?_
      show ab_Z m_SF_look _ _ _ 14 [_, _, _, _, _, _, _, _, _] [_] _
      exact ab_rI ok_SF_look rfl (⟨by rw [if_neg (fun q => bI_0.mp h2 ⟨q.1.2.1, of_decide_eq_true q.1.2.2⟩)], s, rfl, Kp2.rf s⟩)
    · intro h2
      show ab_Z m_SF_look _ _ _ 10 [_, _, _, _, _, _, _, _, _] [] _
      have g2 := bI_n0 h2
      refine ab_go ok_SF_look 1 rfl ?_
      show ab_Z m_SF_look _ _ _ 11 [_, _, _, _, _, _, _, _, _] [_] _
      refine ab_cl ok_SF_look rfl [_] [] rfl rfl (Nat.le_of_ble_eq_true rfl) (t_SF_isLevel (d + 5) _ v) ?_
      rintro _ _ ⟨rfl, rfl⟩
      show ab_Z m_SF_look _ _ _ 12 [_, _, _, _, _, _, _, _, _] [_] _
      refine ab_br ok_SF_look rfl rfl ?_ ?_
      · intro h3
        show ab_Z m_SF_look _ _ _ 13 [_, _, _, _, _, _, _, _, _] [] _
        refine ab_go ok_SF_look 1 rfl ?_
        show ab_Z m_SF_look _ _ _ 14 [_, _, _, _, _, _, _, _, _] [_] _
        exact ab_rI ok_SF_look rfl (⟨by rw [if_neg (fun q => bI_0.mp h3 q.2)], s, rfl, Kp2.rf s⟩)
      · intro h3
        show ab_Z m_SF_look _ _ _ 15 [_, _, _, _, _, _, _, _, _] [] _
        have g3 := bI_n0 h3
        rw [if_pos ⟨⟨⟨g1.1, by omega⟩, ⟨g2.1, decide_eq_true g2.2⟩⟩, g3⟩]
        clear h1 h2 h3
        obtain ⟨k, hk, rfl⟩ := inR_nat (n := nk + 1) (x := x) ⟨g1.1, by omega⟩
        obtain ⟨e, he, rfl⟩ := inR_nat g2.1
        rw [nI_c (n := k) (by omega), nI_c (n := e) (by omega)]
        refine ab_go ok_SF_look 3 rfl ?_
        show ab_Z m_SF_look _ _ _ 18 [_, _, _, _, _, _, _, _, _] [_, _, _] _
        refine ab_cl ok_SF_look rfl [_, _, _] [] rfl ⟨_, _, rfl, rfl, Or.inl ⟨_, _, rfl, rfl⟩⟩ (Nat.le_of_ble_eq_true rfl) (t_SF_suspects d fm X s t hC (show k ≤ 20 by omega) (fun i hi => hT3 i (by omega)) he) ?_
        rintro _ _ ⟨rfl, s1, rfl, hs⟩
        show ab_Z m_SF_look _ _ _ 19 [_, _, _, _, _, _, _, _, _] [_] _
        have hbl := bitsN_lt (susB s PT nd e k) nc
        have hb2 : 2 ^ nc ≤ 2 ^ 5 := Nat.pow_le_pow_right (by decide) h5
        generalize bitsN (susB s PT nd e k) nc = B at hbl ⊢
        have hB0 : nI B = 0 ↔ B = 0 := by
          constructor
          · intro h
            have h3 := congrArg Int32.toInt h
            rw [nI_t (by omega)] at h3
            exact Int.ofNat.inj h3
          · intro h; rw [h]; rfl
        refine ab_go ok_SF_look 4 rfl ?_
        show ab_Z m_SF_look _ _ _ 23 [_, _, _, _, _, _, _, _, _] [_] _
        refine ab_cl ok_SF_look rfl [_] [] rfl rfl (Nat.le_of_ble_eq_true rfl) (t_JI_bitCount (d + 5) _ _) ?_
        rintro _ _ ⟨rfl, rfl⟩
        show ab_Z m_SF_look _ _ _ 24 [_, _, _, _, _, _, _, _, _] [_] _
        refine ab_go ok_SF_look 5 rfl ?_
        show ab_Z m_SF_look _ _ _ 29 [_, _, _, _, _, _, _, _, _] [] _
        by_cases hz : B = 0
        · rw [if_pos hz]
          refine ab_go ok_SF_look 2 rfl ?_
          show ab_Z m_SF_look _ _ _ 31 [_, _, _, _, _, _, _, _, _] [_, _] _
          refine ab_go ok_SF_look 1 rfl ?_
          show ab_Z m_SF_look _ _ _ 32 [_, _, _, _, _, _, _, _, _] [] _
          refine ab_go ok_SF_look 1 rfl ?_
          show ab_Z m_SF_look _ _ _ 33 [_, _, _, _, _, _, _, _, _] [_] _
          refine ab_br ok_SF_look rfl rfl ?_ ?_
          · intro h3
            show ab_Z m_SF_look _ _ _ 50 [_, _, _, _, _, _, _, _, _] [] _
            refine ab_go ok_SF_look 1 rfl ?_
            show ab_Z m_SF_look _ _ _ 51 [_, _, _, _, _, _, _, _, _] [_] _
            exact ab_rI ok_SF_look rfl (⟨rfl, s1, rfl, hs⟩)
          · intro h3
            show ab_Z m_SF_look _ _ _ 34 [_, _, _, _, _, _, _, _, _] [] _
            exact absurd (hB0.mpr hz) h3
        · rw [if_neg hz]
          generalize hg : wrsV s PT nc nd e v (nI B) = g
          generalize hV : (lokV g (nI B) 3).1 = V
          refine lp_dn 3 (fun f => ∀ s1, Kp2 s s1 → ab_Z m_SF_look (d + 6) (0, 0) (P2 V fm X s t) 29 [some (.ref 0), none, some (.int (nI e)), some (.int v), some (.int (nI B)), some (.int (lokV g (nI B) f).1), some (.int (lokV g (nI B) f).2), some (.int (nI f)), none] [] (HA fm X s1 t)) ?_ ?_ s1 hs
          · intro s1 hs
            refine ab_go ok_SF_look 2 rfl ?_
            show ab_Z m_SF_look _ _ _ 31 [_, _, _, _, _, _, _, _, _] [_, _] _
            refine ab_go ok_SF_look 1 rfl ?_
            show ab_Z m_SF_look _ _ _ 50 [_, _, _, _, _, _, _, _, _] [] _
            refine ab_go ok_SF_look 1 rfl ?_
            show ab_Z m_SF_look _ _ _ 51 [_, _, _, _, _, _, _, _, _] [_] _
            exact ab_rI ok_SF_look rfl (⟨by rw [hV], s1, rfl, hs⟩)
          · intro f hf ih s1 hs
            refine ab_go ok_SF_look 2 rfl ?_
            show ab_Z m_SF_look _ _ _ 31 [_, _, _, _, _, _, _, _, _] [_, _] _
            refine ab_br ok_SF_look rfl rfl ?_ ?_
            · intro h1
              show ab_Z m_SF_look _ _ _ 50 [_, _, _, _, _, _, _, _, _] [] _
              exact absurd h1 (lp_in (N := 3) (by decide) hf)
            · intro h1
              show ab_Z m_SF_look _ _ _ 32 [_, _, _, _, _, _, _, _, _] [] _
              refine ab_go ok_SF_look 1 rfl ?_
              show ab_Z m_SF_look _ _ _ 33 [_, _, _, _, _, _, _, _, _] [_] _
              refine ab_br ok_SF_look rfl rfl ?_ ?_
              · intro h3
                show ab_Z m_SF_look _ _ _ 50 [_, _, _, _, _, _, _, _, _] [] _
                exact absurd (hB0.mp h3) hz
              · intro h3
                show ab_Z m_SF_look _ _ _ 34 [_, _, _, _, _, _, _, _, _] [] _
                refine ab_go ok_SF_look 5 rfl ?_
                show ab_Z m_SF_look _ _ _ 39 [_, _, _, _, _, _, _, _, _] [_, _, _, _, _] _
                refine ab_cl ok_SF_look rfl [_, _, _, _, _] [] rfl ⟨_, _, rfl, rfl, Or.inl ⟨_, _, rfl, rfl⟩⟩ (Nat.le_of_ble_eq_true rfl) (t_SF_leftAtWorst d fm X s1 t ⟨hC.1.kp hs, hC.2.kp hs⟩ (nI B) v he hf) ?_
                rintro _ _ ⟨rfl, s2, rfl, hk2⟩
                show ab_Z m_SF_look _ _ _ 40 [_, _, _, _, _, _, _, _, _] [_] _
                rw [wrsV_kp hs, hg]
                refine ab_go ok_SF_look 3 rfl ?_
                show ab_Z m_SF_look _ _ _ 43 [_, _, _, _, _, _, _, _, _] [_, _] _
                have ih2 := ih s2 (hs.tr hk2)
                rw [lokV, nI_succ] at ih2
                refine ab_br ok_SF_look rfl rfl ?_ ?_
                · intro h4
                  show ab_Z m_SF_look _ _ _ 48 [_, _, _, _, _, _, _, _, _] [] _
                  rw [if_neg (by intro q; have := i_lt q; have := i_le h4; omega)] at ih2
                  refine ab_go ok_SF_look 2 rfl ?_
                  show ab_Z m_SF_look _ _ _ 29 [_, _, _, _, _, _, _, _, _] [] _
                  exact ih2
                · intro h4
                  show ab_Z m_SF_look _ _ _ 44 [_, _, _, _, _, _, _, _, _] [] _
                  rw [if_pos (Int32.lt_iff_toInt_lt.mpr (i_nle h4))] at ih2
                  refine ab_go ok_SF_look 6 rfl ?_
                  show ab_Z m_SF_look _ _ _ 29 [_, _, _, _, _, _, _, _, _] [] _
                  exact ih2
def cntA (s : Nat → Nat → Int32) (nc nd nt : Nat) (PT PB PF : List (List Ins)) (w : Int32) : Int32 :=
  if w = 0 then nI nc else if w = 1 then nI nd else if w = 2 then nI nt else if w = 3 then s 11 39 else if w = 4 then nI (bitsN (fun k => decide (s 11 (33 + k) = -2)) nd) else if w = 5 then nI (bitsN (fun k => decide (s 11 (33 + k) = -3)) nd) else if w = 6 then sumV (fun e => bdV s PB PF nd e 0) nd else if w = 7 then nI (cntN (heldB s) nt) else if w = 8 then s 1 1 else if w = 9 then s 38 4 else if w = 10 then s 41 3 else if w = 11 then bcF (s 38 2) else if w = 12 then sumV (fun c => sumV (fun f => s 11 (3 * c + f)) 3) nc else if w = 13 then allP s nd else if w = 14 then nI (bitsN (stuckB s PT nc nd) nd) else if w = 15 then nI (bitsN (fun c => decide (bitsN (fun e => canB s PT nd c e) nd = 0)) nc) else -1
theorem sw_16 (x : Int32) : (x = 0 ∨ x = 1 ∨ x = 2 ∨ x = 3 ∨ x = 4 ∨ x = 5 ∨ x = 6 ∨ x = 7 ∨ x = 8 ∨ x = 9 ∨ x = 10 ∨ x = 11 ∨ x = 12 ∨ x = 13 ∨ x = 14 ∨ x = 15) ∨ (x.toInt < 0 ∨ (16 : Int) ≤ x.toInt) := by
  rcases sw_c 16 x with ⟨k, hk, rfl⟩ | h
  · refine Or.inl ?_
    rcases (by omega : k = 0 ∨ k = 1 ∨ k = 2 ∨ k = 3 ∨ k = 4 ∨ k = 5 ∨ k = 6 ∨ k = 7 ∨ k = 8 ∨ k = 9 ∨ k = 10 ∨ k = 11 ∨ k = 12 ∨ k = 13 ∨ k = 14 ∨ k = 15) with rfl | rfl | rfl | rfl | rfl | rfl | rfl | rfl | rfl | rfl | rfl | rfl | rfl | rfl | rfl | rfl
    · exact Or.inl rfl
    · exact Or.inr (Or.inl rfl)
    · exact Or.inr (Or.inr (Or.inl rfl))
    · exact Or.inr (Or.inr (Or.inr (Or.inl rfl)))
    · exact Or.inr (Or.inr (Or.inr (Or.inr (Or.inl rfl))))
    · exact Or.inr (Or.inr (Or.inr (Or.inr (Or.inr (Or.inl rfl)))))
    · exact Or.inr (Or.inr (Or.inr (Or.inr (Or.inr (Or.inr (Or.inl rfl))))))
    · exact Or.inr (Or.inr (Or.inr (Or.inr (Or.inr (Or.inr (Or.inr (Or.inl rfl)))))))
    · exact Or.inr (Or.inr (Or.inr (Or.inr (Or.inr (Or.inr (Or.inr (Or.inr (Or.inl rfl))))))))
    · exact Or.inr (Or.inr (Or.inr (Or.inr (Or.inr (Or.inr (Or.inr (Or.inr (Or.inr (Or.inl rfl)))))))))
    · exact Or.inr (Or.inr (Or.inr (Or.inr (Or.inr (Or.inr (Or.inr (Or.inr (Or.inr (Or.inr (Or.inl rfl))))))))))
    · exact Or.inr (Or.inr (Or.inr (Or.inr (Or.inr (Or.inr (Or.inr (Or.inr (Or.inr (Or.inr (Or.inr (Or.inl rfl)))))))))))
    · exact Or.inr (Or.inr (Or.inr (Or.inr (Or.inr (Or.inr (Or.inr (Or.inr (Or.inr (Or.inr (Or.inr (Or.inr (Or.inl rfl))))))))))))
    · exact Or.inr (Or.inr (Or.inr (Or.inr (Or.inr (Or.inr (Or.inr (Or.inr (Or.inr (Or.inr (Or.inr (Or.inr (Or.inr (Or.inl rfl)))))))))))))
    · exact Or.inr (Or.inr (Or.inr (Or.inr (Or.inr (Or.inr (Or.inr (Or.inr (Or.inr (Or.inr (Or.inr (Or.inr (Or.inr (Or.inr (Or.inl rfl))))))))))))))
    · exact Or.inr (Or.inr (Or.inr (Or.inr (Or.inr (Or.inr (Or.inr (Or.inr (Or.inr (Or.inr (Or.inr (Or.inr (Or.inr (Or.inr (Or.inr (rfl)))))))))))))))
  · exact Or.inr h
theorem t_SF_count (hC : CI s nc nd nt PT PG PB PF) (w : Int32) : ab_T g_SF_count (d + 7) (0, 0) [.ref 0, .int w] (HA fm X s t) (P2 (cntA s nc nd nt PT PB PF w) fm X s t) := by
  have h5 : nc ≤ 5 := hC.1.2.1
  have h6 : nd ≤ 6 := hC.1.2.2.2.1
  have ht6 : nt ≤ 6 := hC.1.2.2.2.2.2.1
  have q1 := hC.1.1
  have q2 := hC.1.2.2.1
  have q3 := hC.1.2.2.2.2.1
  refine ab_T_of (M := m_SF_count) rfl rfl (Nat.le_of_ble_eq_true rfl) ?_
  show ab_Z m_SF_count _ _ _ 0 [_, _] [] _
  refine ab_go ok_SF_count 1 rfl ?_
  show ab_Z m_SF_count _ _ _ 1 [_, _] [_] _
  rcases sw_16 w with (rfl | rfl | rfl | rfl | rfl | rfl | rfl | rfl | rfl | rfl | rfl | rfl | rfl | rfl | rfl | rfl) | h
  · refine ab_go ok_SF_count 1 rfl ?_
    rw [show ab_tgt 0 [2, 7, 12, 17, 22, 27, 32, 37, 41, 45, 49, 53, 57, 61, 65, 69] 73 0 = 2 from by decide]
    show ab_Z m_SF_count _ _ _ 2 [_, _] [] _
    refine ab_go ok_SF_count 4 rfl ?_
    show ab_Z m_SF_count _ _ _ 6 [_, _] [_] _
    rw [q1]
    exact ab_rI ok_SF_count rfl (⟨rfl, s, rfl, Kp2.rf s⟩)
  · refine ab_go ok_SF_count 1 rfl ?_
    rw [show ab_tgt 0 [2, 7, 12, 17, 22, 27, 32, 37, 41, 45, 49, 53, 57, 61, 65, 69] 73 1 = 7 from by decide]
    show ab_Z m_SF_count _ _ _ 7 [_, _] [] _
    refine ab_go ok_SF_count 4 rfl ?_
    show ab_Z m_SF_count _ _ _ 11 [_, _] [_] _
    rw [q2]
    exact ab_rI ok_SF_count rfl (⟨rfl, s, rfl, Kp2.rf s⟩)
  · refine ab_go ok_SF_count 1 rfl ?_
    rw [show ab_tgt 0 [2, 7, 12, 17, 22, 27, 32, 37, 41, 45, 49, 53, 57, 61, 65, 69] 73 2 = 12 from by decide]
    show ab_Z m_SF_count _ _ _ 12 [_, _] [] _
    refine ab_go ok_SF_count 4 rfl ?_
    show ab_Z m_SF_count _ _ _ 16 [_, _] [_] _
    rw [q3]
    exact ab_rI ok_SF_count rfl (⟨rfl, s, rfl, Kp2.rf s⟩)
  · refine ab_go ok_SF_count 1 rfl ?_
    rw [show ab_tgt 0 [2, 7, 12, 17, 22, 27, 32, 37, 41, 45, 49, 53, 57, 61, 65, 69] 73 3 = 17 from by decide]
    show ab_Z m_SF_count _ _ _ 17 [_, _] [] _
    refine ab_go ok_SF_count 3 rfl ?_
    show ab_Z m_SF_count _ _ _ 20 [_, _] [_] _
    refine ab_cl ok_SF_count rfl [_] [] rfl ⟨_, _, rfl, rfl, Or.inl ⟨_, _, rfl, rfl⟩⟩ (Nat.le_of_ble_eq_true rfl) (t_Sc_yearNow (d + 6) fm X s t) ?_
    rintro _ _ ⟨rfl, rfl⟩
    show ab_Z m_SF_count _ _ _ 21 [_, _] [_] _
    exact ab_rI ok_SF_count rfl (⟨rfl, s, rfl, Kp2.rf s⟩)
  · refine ab_go ok_SF_count 1 rfl ?_
    rw [show ab_tgt 0 [2, 7, 12, 17, 22, 27, 32, 37, 41, 45, 49, 53, 57, 61, 65, 69] 73 4 = 22 from by decide]
    show ab_Z m_SF_count _ _ _ 22 [_, _] [] _
    refine ab_go ok_SF_count 3 rfl ?_
    show ab_Z m_SF_count _ _ _ 25 [_, _] [_, _] _
    refine ab_cl ok_SF_count rfl [_, _] [] rfl ⟨_, _, rfl, rfl, Or.inl ⟨_, _, rfl, rfl⟩⟩ (Nat.le_of_ble_eq_true rfl) (t_Ha_deedsWith (d + 5) fm X s t (-2) q2 h6) ?_
    rintro _ _ ⟨rfl, rfl⟩
    show ab_Z m_SF_count _ _ _ 26 [_, _] [_] _
    exact ab_rI ok_SF_count rfl (⟨rfl, s, rfl, Kp2.rf s⟩)
  · refine ab_go ok_SF_count 1 rfl ?_
    rw [show ab_tgt 0 [2, 7, 12, 17, 22, 27, 32, 37, 41, 45, 49, 53, 57, 61, 65, 69] 73 5 = 27 from by decide]
    show ab_Z m_SF_count _ _ _ 27 [_, _] [] _
    refine ab_go ok_SF_count 3 rfl ?_
    show ab_Z m_SF_count _ _ _ 30 [_, _] [_, _] _
    refine ab_cl ok_SF_count rfl [_, _] [] rfl ⟨_, _, rfl, rfl, Or.inl ⟨_, _, rfl, rfl⟩⟩ (Nat.le_of_ble_eq_true rfl) (t_Ha_deedsWith (d + 5) fm X s t (-3) q2 h6) ?_
    rintro _ _ ⟨rfl, rfl⟩
    show ab_Z m_SF_count _ _ _ 31 [_, _] [_] _
    exact ab_rI ok_SF_count rfl (⟨rfl, s, rfl, Kp2.rf s⟩)
  · refine ab_go ok_SF_count 1 rfl ?_
    rw [show ab_tgt 0 [2, 7, 12, 17, 22, 27, 32, 37, 41, 45, 49, 53, 57, 61, 65, 69] 73 6 = 32 from by decide]
    show ab_Z m_SF_count _ _ _ 32 [_, _] [] _
    refine ab_go ok_SF_count 3 rfl ?_
    show ab_Z m_SF_count _ _ _ 35 [_, _] [_, _] _
    refine ab_cl ok_SF_count rfl [_, _] [] rfl ⟨_, _, rfl, rfl, Or.inl ⟨_, _, rfl, rfl⟩⟩ (Nat.le_of_ble_eq_true rfl) (t_Ha_allBindAfter d fm X s t hC.1.2.2.2.2.2.2.2.2.1 hC.1.2.2.2.2.2.2.2.2.2 q2 h6 h5 hC.2 (n := 0) (by decide)) ?_
    rintro _ _ ⟨rfl, s1, rfl, hk⟩
    show ab_Z m_SF_count _ _ _ 36 [_, _] [_] _
    exact ab_rI ok_SF_count rfl (⟨rfl, s1, rfl, hk.to2⟩)
  · refine ab_go ok_SF_count 1 rfl ?_
    rw [show ab_tgt 0 [2, 7, 12, 17, 22, 27, 32, 37, 41, 45, 49, 53, 57, 61, 65, 69] 73 7 = 37 from by decide]
    show ab_Z m_SF_count _ _ _ 37 [_, _] [] _
    refine ab_go ok_SF_count 2 rfl ?_
    show ab_Z m_SF_count _ _ _ 39 [_, _] [_] _
    refine ab_cl ok_SF_count rfl [_] [] rfl ⟨_, _, rfl, rfl, Or.inl ⟨_, _, rfl, rfl⟩⟩ (Nat.le_of_ble_eq_true rfl) (t_Ha_treatiesHeld (d + 3) fm X s t q2 h6 q3 ht6 hC.2) ?_
    rintro _ _ ⟨rfl, rfl⟩
    show ab_Z m_SF_count _ _ _ 40 [_, _] [_] _
    exact ab_rI ok_SF_count rfl (⟨rfl, s, rfl, Kp2.rf s⟩)
  · refine ab_go ok_SF_count 1 rfl ?_
    rw [show ab_tgt 0 [2, 7, 12, 17, 22, 27, 32, 37, 41, 45, 49, 53, 57, 61, 65, 69] 73 8 = 41 from by decide]
    show ab_Z m_SF_count _ _ _ 41 [_, _] [] _
    refine ab_go ok_SF_count 3 rfl ?_
    show ab_Z m_SF_count _ _ _ 44 [_, _] [_] _
    exact ab_rI ok_SF_count rfl (⟨rfl, s, rfl, Kp2.rf s⟩)
  · refine ab_go ok_SF_count 1 rfl ?_
    rw [show ab_tgt 0 [2, 7, 12, 17, 22, 27, 32, 37, 41, 45, 49, 53, 57, 61, 65, 69] 73 9 = 45 from by decide]
    show ab_Z m_SF_count _ _ _ 45 [_, _] [] _
    refine ab_go ok_SF_count 3 rfl ?_
    show ab_Z m_SF_count _ _ _ 48 [_, _] [_] _
    exact ab_rI ok_SF_count rfl (⟨rfl, s, rfl, Kp2.rf s⟩)
  · refine ab_go ok_SF_count 1 rfl ?_
    rw [show ab_tgt 0 [2, 7, 12, 17, 22, 27, 32, 37, 41, 45, 49, 53, 57, 61, 65, 69] 73 10 = 49 from by decide]
    show ab_Z m_SF_count _ _ _ 49 [_, _] [] _
    refine ab_go ok_SF_count 3 rfl ?_
    show ab_Z m_SF_count _ _ _ 52 [_, _] [_] _
    exact ab_rI ok_SF_count rfl (⟨rfl, s, rfl, Kp2.rf s⟩)
  · refine ab_go ok_SF_count 1 rfl ?_
    rw [show ab_tgt 0 [2, 7, 12, 17, 22, 27, 32, 37, 41, 45, 49, 53, 57, 61, 65, 69] 73 11 = 53 from by decide]
    show ab_Z m_SF_count _ _ _ 53 [_, _] [] _
    refine ab_go ok_SF_count 2 rfl ?_
    show ab_Z m_SF_count _ _ _ 55 [_, _] [_] _
    refine ab_cl ok_SF_count rfl [_] [] rfl ⟨_, _, rfl, rfl, Or.inl ⟨_, _, rfl, rfl⟩⟩ (Nat.le_of_ble_eq_true rfl) (t_Me_slotsFull (d + 5) fm X s t) ?_
    rintro _ _ ⟨rfl, rfl⟩
    show ab_Z m_SF_count _ _ _ 56 [_, _] [_] _
    exact ab_rI ok_SF_count rfl (⟨rfl, s, rfl, Kp2.rf s⟩)
  · refine ab_go ok_SF_count 1 rfl ?_
    rw [show ab_tgt 0 [2, 7, 12, 17, 22, 27, 32, 37, 41, 45, 49, 53, 57, 61, 65, 69] 73 12 = 57 from by decide]
    show ab_Z m_SF_count _ _ _ 57 [_, _] [] _
    refine ab_go ok_SF_count 2 rfl ?_
    show ab_Z m_SF_count _ _ _ 59 [_, _] [_] _
    refine ab_cl ok_SF_count rfl [_] [] rfl ⟨_, _, rfl, rfl, Or.inl ⟨_, _, rfl, rfl⟩⟩ (Nat.le_of_ble_eq_true rfl) (t_Ha_allLevels (d + 3) fm X s t q1 h5) ?_
    rintro _ _ ⟨rfl, rfl⟩
    show ab_Z m_SF_count _ _ _ 60 [_, _] [_] _
    exact ab_rI ok_SF_count rfl (⟨rfl, s, rfl, Kp2.rf s⟩)
  · refine ab_go ok_SF_count 1 rfl ?_
    rw [show ab_tgt 0 [2, 7, 12, 17, 22, 27, 32, 37, 41, 45, 49, 53, 57, 61, 65, 69] 73 13 = 61 from by decide]
    show ab_Z m_SF_count _ _ _ 61 [_, _] [] _
    refine ab_go ok_SF_count 2 rfl ?_
    show ab_Z m_SF_count _ _ _ 63 [_, _] [_] _
    refine ab_cl ok_SF_count rfl [_] [] rfl ⟨_, _, rfl, rfl, Or.inl ⟨_, _, rfl, rfl⟩⟩ (Nat.le_of_ble_eq_true rfl) (t_Ha_allPrints (d + 4) fm X s t q2 h6) ?_
    rintro _ _ ⟨rfl, rfl⟩
    show ab_Z m_SF_count _ _ _ 64 [_, _] [_] _
    exact ab_rI ok_SF_count rfl (⟨rfl, s, rfl, Kp2.rf s⟩)
  · refine ab_go ok_SF_count 1 rfl ?_
    rw [show ab_tgt 0 [2, 7, 12, 17, 22, 27, 32, 37, 41, 45, 49, 53, 57, 61, 65, 69] 73 14 = 65 from by decide]
    show ab_Z m_SF_count _ _ _ 65 [_, _] [] _
    refine ab_go ok_SF_count 2 rfl ?_
    show ab_Z m_SF_count _ _ _ 67 [_, _] [_] _
    refine ab_cl ok_SF_count rfl [_] [] rfl ⟨_, _, rfl, rfl, Or.inl ⟨_, _, rfl, rfl⟩⟩ (Nat.le_of_ble_eq_true rfl) (t_Ha_stuckDeeds d fm X s t hC.1.2.2.2.2.2.2.1 q1 h5 q2 h6) ?_
    rintro _ _ ⟨rfl, s1, rfl, hk⟩
    show ab_Z m_SF_count _ _ _ 68 [_, _] [_] _
    exact ab_rI ok_SF_count rfl (⟨rfl, s1, rfl, hk⟩)
  · refine ab_go ok_SF_count 1 rfl ?_
    rw [show ab_tgt 0 [2, 7, 12, 17, 22, 27, 32, 37, 41, 45, 49, 53, 57, 61, 65, 69] 73 15 = 69 from by decide]
    show ab_Z m_SF_count _ _ _ 69 [_, _] [] _
    refine ab_go ok_SF_count 2 rfl ?_
    show ab_Z m_SF_count _ _ _ 71 [_, _] [_] _
    refine ab_cl ok_SF_count rfl [_] [] rfl ⟨_, _, rfl, rfl, Or.inl ⟨_, _, rfl, rfl⟩⟩ (Nat.le_of_ble_eq_true rfl) (t_Ha_idleClerks d fm X s t hC.1.2.2.2.2.2.2.1 q1 h5 q2 h6) ?_
    rintro _ _ ⟨rfl, s1, rfl, hk⟩
    show ab_Z m_SF_count _ _ _ 72 [_, _] [_] _
    exact ab_rI ok_SF_count rfl (⟨rfl, s1, rfl, hk⟩)
  · refine ab_go ok_SF_count 1 rfl ?_
    rw [ab_tgt_d (h)]
    show ab_Z m_SF_count _ _ _ 73 [_, _] [] _
    refine ab_go ok_SF_count 1 rfl ?_
    show ab_Z m_SF_count _ _ _ 74 [_, _] [_] _
    have ho := out_n (n := 16) h
    exact ab_rI ok_SF_count rfl (⟨by rw [cntA, if_neg (ho 0 (by decide) (by decide)), if_neg (ho 1 (by decide) (by decide)), if_neg (ho 2 (by decide) (by decide)), if_neg (ho 3 (by decide) (by decide)), if_neg (ho 4 (by decide) (by decide)), if_neg (ho 5 (by decide) (by decide)), if_neg (ho 6 (by decide) (by decide)), if_neg (ho 7 (by decide) (by decide)), if_neg (ho 8 (by decide) (by decide)), if_neg (ho 9 (by decide) (by decide)), if_neg (ho 10 (by decide) (by decide)), if_neg (ho 11 (by decide) (by decide)), if_neg (ho 12 (by decide) (by decide)), if_neg (ho 13 (by decide) (by decide)), if_neg (ho 14 (by decide) (by decide)), if_neg (ho 15 (by decide) (by decide))], s, rfl, Kp2.rf s⟩)
end

