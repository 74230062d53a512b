def KV0 (sd : Nat) (s s' : Nat → Nat → Int32) : Prop := ∀ c k, ¬ wMp sd c k → ¬ (c = 81 ∧ (k = 2 ∨ k = 4 ∨ k = 10 ∨ k = 17 ∨ k = 19)) → c ≠ 83 → c ≠ 84 → c ≠ 85 → c ≠ 86 → s' c k = s c k
def KV (sd : Nat) (s s' : Nat → Nat → Int32) : Prop := ∀ c k, ¬ wMp sd c k → ¬ (c = 81 ∧ (k = 2 ∨ k = 4 ∨ k = 10 ∨ k = 17 ∨ k = 18 ∨ k = 19 ∨ k = 52 ∨ k = 56 ∨ k = 63)) → c ≠ 83 → c ≠ 84 → c ≠ 85 → c ≠ 86 → c ≠ 114 → c ≠ 115 → c ≠ 127 → s' c k = s c k
/-- what a good reading leaves: the reference's side sd holds x -/
def RdG (sd : Nat) (s' : Nat → Nat → Int32) (x : Tx) : Prop := DM s' sd x ∧ (∀ k, k < 4 → ∃ c b, c ≤ 420 * sd + 400 ∧ b ≤ 130 * sd + 100 ∧ LwM s' sd k (xLw x k) (xLw tx0 k) c b) ∧ s' 81 18 = nI sd ∧ s' 81 17 = -1 ∧ s' 81 2 = 0 ∧ s' 81 56 = 0 ∧ s' 81 63 = 0 ∧ s' 81 52 = nI (xSd x) ∧ (∀ j, j < 3 → s' 127 j = 0) ∧ ∀ j, j < 40 → s' 114 j = rgF x (3 * xNc x) j
section
variable (d : Nat) (fm : Value) (X : Nat × (Nat → Int32)) (s : Nat → Nat → Int32) (t : Nat → Nat → Int64)
variable {K P v : Nat → Nat} {nm : Nat → List Nat} {Po : Option Value → ab_H → Prop}
theorem r_loop {sd : Nat} {F : Rs (Nat × Tx)} (hB : ∀ e s6 t6, F = .inr e → KW sd s s6 → (∀ c, c ≠ 89 → t6 c = t c) → RdM s6 K P (.inr e) → ab_Z m_Mo_read (d + 7) (0, 0) Po 72 [some (.ref 81), none] [] (HA fm X s6 t6)) (hG : ∀ q s6 t6, F = .inl q → KW sd s s6 → (∀ c, c ≠ 89 → t6 c = t c) → RSt K P v nm sd s6 t6 q.1 q.2 → ab_Z m_Mo_read (d + 7) (0, 0) Po 72 [some (.ref 81), none] [] (HA fm X s6 t6)) : ∀ m n x s6 t6, 401 ≤ m + n → topT K v nm m n x = F → KW sd s s6 → (∀ c, c ≠ 89 → t6 c = t c) → RSt K P v nm sd s6 t6 n x → ab_Z m_Mo_read (d + 7) (0, 0) Po 62 [some (.ref 81), none] [] (HA fm X s6 t6) := by
  intro m
  induction m with
  | zero =>
    intro n x s6 t6 hm hE k6 kt hS
    exact absurd hS.2.1.2.2.1 (by omega)
  | succ m ih =>
    intro n x s6 t6 hm hE k6 kt hS
    have hR := hS.2.1
    have hn4 : n ≤ 400 := hR.2.2.1
    rw [topT] at hE
    refine ab_go ok_Mo_read 2 rfl ?_
    show ab_Z m_Mo_read _ _ _ 64 [_, _] [_] _
    rw [hR.2.1]
    refine ab_go ok_Mo_read 1 rfl ?_
    show ab_Z m_Mo_read _ _ _ 65 [_, _] [] _
    refine ab_go ok_Mo_read 2 rfl ?_
    show ab_Z m_Mo_read _ _ _ 67 [_, _] [_, _] _
    refine ab_cl ok_Mo_read rfl [_, _] [] rfl ⟨_, _, rfl, rfl, Or.inl ⟨_, _, rfl, rfl⟩⟩ (Nat.le_of_ble_eq_true rfl) (t_Mo_is (d + 6) fm X s6 t6 hS.1 hR (w := 0) (by decide) _ rfl) ?_
    rintro _ _ ⟨rfl, rfl⟩
    show ab_Z m_Mo_read _ _ _ 68 [_, _] [_] _
    refine ab_br ok_Mo_read rfl rfl ?_ ?_
    · intro h1
      show ab_Z m_Mo_read _ _ _ 69 [_, _] [] _
      have h1' : ¬ K n = 0 := of_decide_eq_false (bB_0.mp h1)
      rw [if_neg h1'] at hE
      refine ab_go ok_Mo_read 1 rfl ?_
      show ab_Z m_Mo_read _ _ _ 70 [_, _] [_] _
      refine ab_cl ok_Mo_read rfl [_] [] rfl ⟨_, _, rfl, rfl, Or.inl ⟨_, _, rfl, rfl⟩⟩ (Nat.le_of_ble_eq_true rfl) (t_Mo_tellOne d fm X s6 t6 hS) ?_
      rintro _ _ ⟨rfl, s7, t7, rfl, k7, kt7, hR7, hS7⟩
      show ab_Z m_Mo_read _ _ _ 71 [_, _] [] _
      refine ab_go ok_Mo_read 1 rfl ?_
      show ab_Z m_Mo_read _ _ _ 62 [_, _] [] _
      cases hq : telT K v nm x n with
      | inr e =>
        rw [hq] at hR7 hE
        have hR7' : RdM s7 K P (.inr e) := hR7
        refine ab_go ok_Mo_read 2 rfl ?_
        show ab_Z m_Mo_read _ _ _ 64 [_, _] [_] _
        rw [hR7'.1]
        refine ab_br ok_Mo_read rfl rfl ?_ ?_
        · intro h2
          show ab_Z m_Mo_read _ _ _ 65 [_, _] [] _
          exact absurd h2 (fl_1 hR7'.2.2.1).1
        · intro h2
          show ab_Z m_Mo_read _ _ _ 72 [_, _] [] _
          exact hB e s7 t7 hE.symm (k6.tr k7) (fun c hc => (kt7 c hc).trans (kt c hc)) hR7'
      | inl q =>
        rw [hq, bnd_l] at hE
        have hup := (tel_P hn4 hq (fun z => Nat.le_of_lt (hS.2.2.2.1 z))).1
        exact ih q.1 q.2 s7 t7 (by omega) hE (k6.tr k7) (fun c hc => (kt7 c hc).trans (kt c hc)) (hS7 q hq)
    · intro h1
      show ab_Z m_Mo_read _ _ _ 72 [_, _] [] _
      have h1' : K n = 0 := of_decide_eq_true (bB_n0 h1)
      rw [if_pos h1'] at hE
      exact hG (n, x) s6 t6 hE.symm k6 kt hS
theorem t_Mo_read {L lv : Nat} (hW : WdR t) (hL : s 81 2 = nI L) (h2 : L ≤ 2000) (hlv : s 81 18 = nI lv) (hlv2 : lv < 2) (hby : ∀ j, j < L → (s 82 j).toInt8.toInt32 = s 82 j) {b : Nat → Int32} (hb : b = s 82) : ab_T g_Mo_read (d + 7) (0, 0) [.ref 81] (HA fm X s t) (fun r h => r = some (.int (nI (rdN (fOf b L)))) ∧ ∃ s' t', h = HA fm X s' t' ∧ (∀ c, c ≠ 87 → c ≠ 89 → t' c = t c) ∧ (rdN (fOf b L) ≠ 0 → KV0 (1 - lv) s s' ∧ s' 81 17 = nI (rdP (tkP b L) (fOf b L)) ∧ s' 81 2 = 0) ∧ (rdN (fOf b L) = 0 → KV (1 - lv) s s' ∧ ∃ q, fOf b L = .inl q ∧ RdG (1 - lv) s' q.2)) := by
  generalize hPo : (fun r h => r = some (.int (nI (rdN (fOf b L)))) ∧ ∃ s' t', h = HA fm X s' t' ∧ (∀ c, c ≠ 87 → c ≠ 89 → t' c = t c) ∧ (rdN (fOf b L) ≠ 0 → KV0 (1 - lv) s s' ∧ s' 81 17 = nI (rdP (tkP b L) (fOf b L)) ∧ s' 81 2 = 0) ∧ (rdN (fOf b L) = 0 → KV (1 - lv) s s' ∧ ∃ q, fOf b L = .inl q ∧ RdG (1 - lv) s' q.2) : Option Value → ab_H → Prop) = Po
  obtain ⟨sd, hsd⟩ : ∃ sd, sd = 1 - lv := ⟨_, rfl⟩
  rw [← hsd] at hPo
  have hs2 : sd < 2 := by omega
  have hsI : (1 : Int32) - nI lv = nI sd := by
    rcases (by omega : lv = 0 ∨ lv = 1) with rfl | rfl
    · rw [hsd]; decide
    · rw [hsd]; decide
  have main : ∀ g, (∀ j, j < L → g j = s 82 j) → ab_Z m_Mo_read (d + 7) (0, 0) Po 20 [some (.ref 81), some (.int (nI L))] [] (HA fm X (ab_ro (ab_up s 81 4 (nI L)) 83 g) t) := by
    intro g hg
    have hch : chN g L = chN b L := by
      funext i
      unfold chN
      by_cases hi : i < L
      · rw [if_pos hi, if_pos hi]
        unfold byN
        rw [hg i hi, hb]
      · rw [if_neg hi, if_neg hi]
    obtain ⟨eP, eF⟩ := tk_cg hch
    rw [← eP, ← eF] at hPo
    obtain ⟨F, hF⟩ : ∃ F, F = topT (kOf g L) (vOf g L) (nOf g L) 401 0 tx0 := ⟨_, rfl⟩
    rw [show fOf g L = F from hF.symm] at hPo
    obtain ⟨s1, hs1⟩ : ∃ s1, s1 = ab_up (ab_ro (ab_up s 81 4 (nI L)) 83 g) 81 2 0 := ⟨_, rfl⟩
    have e1 : ∀ c, c ≠ 81 → c ≠ 83 → s1 c = s c := fun c h1 h2 => by rw [hs1, ab_up_o h1, ab_ro_o h2, ab_up_o h1]
    have f1 : ∀ k, k ≠ 2 → k ≠ 4 → s1 81 k = s 81 k := fun k h1 h2 => by rw [hs1, ab_up_n h1, ab_ro_o (by decide), ab_up_n h2]
    have h83 : g = s1 83 := by rw [hs1, ab_up_o (by decide), ab_ro_c]
    have h4 : s1 81 4 = nI L := by rw [hs1, ab_up_n (by decide), ab_ro_o (by decide), ab_up_s]
    refine ab_go ok_Mo_read 4 rfl ?_
    show ab_Z m_Mo_read _ _ _ 24 [_, _] [_] _
    rw [← hs1]
    refine ab_cl ok_Mo_read rfl [_] [] rfl ⟨_, _, rfl, rfl, Or.inl ⟨_, _, rfl, rfl⟩⟩ (Nat.le_of_ble_eq_true rfl) (t_Mo_cut (d + 4) fm X s1 t h83 hW h4 h2) ?_
    rintro _ _ ⟨rfl, s2, t2, N, rfl, k2, kt2, hTr⟩
    show ab_Z m_Mo_read _ _ _ 25 [_, _] [] _
    have hT2 := tr_TM h2 hTr
    have f2 : ∀ k, k ≠ 10 → s2 81 k = s1 81 k := fun k hk => k2 81 k (by decide) (by decide) (by decide) (fun z => hk z.2)
    refine ab_go ok_Mo_read 24 rfl ?_
    show ab_Z m_Mo_read _ _ _ 49 [_, _] [_, _] _
    obtain ⟨s3, hs3⟩ : ∃ s3, s3 = ab_up (ab_up (ab_up (ab_up (ab_up (ab_up s2 81 11 0) 81 12 0) 81 13 0) 81 15 0) 81 19 (nI sd)) 81 20 0 := ⟨_, rfl⟩
    rw [show ab_up (ab_up (ab_up (ab_up s2 81 11 0) 81 12 0) 81 13 0) 81 15 0 81 18 = nI lv from by rw [ab_up_n (by decide), ab_up_n (by decide), ab_up_n (by decide), ab_up_n (by decide), f2 18 (by decide), f1 18 (by decide) (by decide)]; exact hlv, hsI, ← hs3]
    have r3 : ∀ c, c ≠ 81 → s3 c = s2 c := fun c hc => by rw [hs3, ab_up_o hc, ab_up_o hc, ab_up_o hc, ab_up_o hc, ab_up_o hc, ab_up_o hc]
    have f3 : ∀ k, ¬ (k = 11 ∨ k = 12 ∨ k = 13 ∨ k = 15 ∨ k = 19 ∨ k = 20) → s3 81 k = s2 81 k := fun k hk => by rw [hs3, ab_up_n (by omega), ab_up_n (by omega), ab_up_n (by omega), ab_up_n (by omega), ab_up_n (by omega), ab_up_n (by omega)]
    have g11 : s3 81 11 = 0 := by rw [hs3, ab_up_n (by decide), ab_up_n (by decide), ab_up_n (by decide), ab_up_n (by decide), ab_up_n (by decide), ab_up_s]
    have g12 : s3 81 12 = 0 := by rw [hs3, ab_up_n (by decide), ab_up_n (by decide), ab_up_n (by decide), ab_up_n (by decide), ab_up_s]
    have g13 : s3 81 13 = 0 := by rw [hs3, ab_up_n (by decide), ab_up_n (by decide), ab_up_n (by decide), ab_up_s]
    have g15 : s3 81 15 = 0 := by rw [hs3, ab_up_n (by decide), ab_up_n (by decide), ab_up_s]
    have g19 : s3 81 19 = nI sd := by rw [hs3, ab_up_n (by decide), ab_up_s]
    have g20 : s3 81 20 = 0 := by rw [hs3, ab_up_s]
    rw [g19]
    refine ab_cl ok_Mo_read rfl [_, _] [] rfl ⟨_, _, rfl, rfl, Or.inl ⟨_, _, rfl, rfl⟩⟩ (Nat.le_of_ble_eq_true rfl) (t_Mo_plain (d + 6) fm X s3 t2 hs2) ?_
    rintro _ _ ⟨rfl, s4, rfl, k4, e4, z4, y4⟩
    show ab_Z m_Mo_read _ _ _ 50 [_, _] [] _
    have f4 : s4 81 = s3 81 := e4 81 (by omega)
    refine ab_go ok_Mo_read 12 rfl ?_
    show ab_Z m_Mo_read _ _ _ 62 [_, _] [] _
    rw [show s4 81 19 = nI sd from by rw [f4]; exact g19, show (130 : Int32) * nI sd = nI (130 * sd) from by rw [show (130 : Int32) = nI 130 from rfl, pk_mul], show ab_up s4 81 36 (nI (130 * sd)) 81 19 = nI sd from by rw [ab_up_n (by decide), f4]; exact g19, show (420 : Int32) * nI sd = nI (420 * sd) from by rw [show (420 : Int32) = nI 420 from rfl, pk_mul]]
    obtain ⟨s5, hs5⟩ : ∃ s5, s5 = ab_up (ab_up s4 81 36 (nI (130 * sd))) 81 42 (nI (420 * sd)) := ⟨_, rfl⟩
    rw [← hs5]
    have r5 : ∀ c, c ≠ 81 → s5 c = s4 c := fun c hc => by rw [hs5, ab_up_o hc, ab_up_o hc]
    have f5 : ∀ k, k ≠ 36 → k ≠ 42 → s5 81 k = s3 81 k := fun k h1 h2 => by rw [hs5, ab_up_n h2, ab_up_n h1, f4]
    have hS5 : RSt (kOf g L) (tkP g L) (vOf g L) (nOf g L) sd s5 t2 0 tx0 := by
      have e : ∀ c, c ≠ 81 → ¬ (c = 91 ∨ c = 94 ∨ c = 97 ∨ c = 100 ∨ c = 101 ∨ c = 102 ∨ c = 103) → s5 c = s2 c := fun c h1 h2 => by rw [r5 c h1, e4 c h2, r3 c h1]
      refine ⟨hT2.of (e 84 (by decide) (by decide)) (e 85 (by decide) (by decide)) (e 86 (by decide) (by decide)) rfl, ⟨(f5 11 (by decide) (by decide)).trans g11, (f5 13 (by decide) (by decide)).trans g13, Nat.zero_le _, fun m hm => absurd hm (by omega)⟩, ⟨(f5 15 (by decide) (by decide)).trans g15, Nat.zero_le _, fun z => absurd rfl z⟩, fun z => absurd rfl z, (f5 12 (by decide) (by decide)).trans g12, ⟨(f5 19 (by decide) (by decide)).trans g19, hs2⟩, ⟨[], (f5 20 (by decide) (by decide)).trans g20, rfl, fun j q hq => by simp at hq, fun w => rfl, fun w => rfl⟩, ⟨⟨?_, Nat.zero_le _, fun c hc => absurd hc (Nat.not_lt_zero c)⟩, ⟨?_, Nat.zero_le _, fun c hc => absurd hc (Nat.not_lt_zero c)⟩, ⟨?_, Nat.zero_le _, fun c hc => absurd hc (Nat.not_lt_zero c)⟩, ?_, ?_⟩, 420 * sd, 130 * sd, by rw [hs5, ab_up_s], Nat.le_refl _, by omega, by rw [hs5, ab_up_n (by decide), ab_up_s], Nat.le_refl _, by omega, fun k hk => Or.inl ⟨?_, rfl⟩⟩
      · rw [r5 91 (by decide)]; exact z4 91 (by omega)
      · rw [r5 94 (by decide)]; exact z4 94 (by omega)
      · rw [r5 97 (by decide)]; exact z4 97 (by omega)
      · rw [r5 100 (by decide)]; exact z4 100 (by omega)
      · rw [r5 101 (by decide)]; exact z4 101 (by omega)
      · rw [r5 102 (by decide), r5 103 (by decide), (y4 k hk).1, (y4 k hk).2]
    have kt5 : ∀ t6 : Nat → Nat → Int64, (∀ c, c ≠ 89 → t6 c = t2 c) → ∀ c, c ≠ 87 → c ≠ 89 → t6 c = t c := fun t6 h c h1 h2 => (h c h2).trans (kt2 c h1)
    have kV : ∀ s6, KW sd s5 s6 → KV0 sd s s6 := fun s6 k6 c k h1 h3 h4 h5 h6 h7 => by
      rw [k6 c k h1]
      by_cases hc : c = 81
      · subst hc
        have n0 : ∀ j, j = 11 ∨ j = 12 ∨ j = 13 ∨ j = 14 ∨ j = 15 ∨ j = 16 ∨ j = 20 ∨ j = 36 ∨ j = 42 ∨ j = 46 → k ≠ j := fun j hj z => h1 (wm0 ⟨rfl, by omega⟩)
        have n1 : ∀ j, j = 2 ∨ j = 4 ∨ j = 10 ∨ j = 17 ∨ j = 19 → k ≠ j := fun j hj z => h3 ⟨rfl, by omega⟩
        rw [f5 k (n0 36 (by omega)) (n0 42 (by omega)), f3 k (fun z => by rcases z with z | z | z | z | z | z; exact n0 11 (by omega) z; exact n0 12 (by omega) z; exact n0 13 (by omega) z; exact n0 15 (by omega) z; exact n1 19 (by omega) z; exact n0 20 (by omega) z), f2 k (n1 10 (by omega)), f1 k (n1 2 (by omega)) (n1 4 (by omega))]
      · rw [r5 c hc, k4 c k h1, r3 c hc, k2 c k h5 h6 h7 (fun z => hc z.1), e1 c hc h4]
    have h25 : s5 81 2 = 0 := by rw [f5 2 (by decide) (by decide), f3 2 (by omega), f2 2 (by decide), hs1, ab_up_s]
    have h26 : ∀ s6, KW sd s5 s6 → s6 81 2 = 0 := fun s6 k6 => (k6 81 2 (fun z => by unfold wMp at z; omega)).trans h25
    have kV17 : ∀ s6 (x : Int32), KV0 sd s s6 → KV0 sd s (ab_up s6 81 17 x) := fun s6 x h c k h1 h3 h4 h5 h6 h7 => by
      by_cases hc : c = 81
      · subst hc
        rw [ab_up_n (fun z => h3 ⟨rfl, by omega⟩)]
        exact h 81 k h1 h3 h4 h5 h6 h7
      · rw [ab_up_o hc]
        exact h c k h1 h3 h4 h5 h6 h7
    refine r_loop d fm X s5 t2 (F := F) (v := vOf g L) (nm := nOf g L) (K := kOf g L) (P := tkP g L) ?_ ?_ 401 0 tx0 s5 t2 (by omega) hF.symm (KW.rf sd s5) (fun _ _ => rfl) hS5
    · intro e s6 t6 hFe k6 kt6 hR6
      refine ab_go ok_Mo_read 3 rfl ?_
      show ab_Z m_Mo_read _ _ _ 75 [_, _] [_, _] _
      rw [hR6.1]
      refine ab_br ok_Mo_read rfl rfl ?_ ?_
      · intro h1
        show ab_Z m_Mo_read _ _ _ 79 [_, _] [_] _
        exact absurd h1 (fl_1 hR6.2.2.1).2.1
      · intro h1
        show ab_Z m_Mo_read _ _ _ 76 [_, _] [_] _
        refine ab_go ok_Mo_read 6 rfl ?_
        show ab_Z m_Mo_read _ _ _ 89 [_, _] [_] _
        rw [hR6.2.1, show ab_up s6 81 17 (nI (tkP g L e.2)) 81 13 = nI e.1 from by rw [ab_up_n (by decide)]; exact hR6.1]
        refine ab_br ok_Mo_read rfl rfl ?_ ?_
        · intro h3
          show ab_Z m_Mo_read _ _ _ 93 [_, _] [] _
          exact absurd h3 h1
        · intro h3
          show ab_Z m_Mo_read _ _ _ 90 [_, _] [] _
          refine ab_go ok_Mo_read 2 rfl ?_
          show ab_Z m_Mo_read _ _ _ 92 [_, _] [_] _
          rw [show ab_up s6 81 17 (nI (tkP g L e.2)) 81 13 = nI e.1 from by rw [ab_up_n (by decide)]; exact hR6.1]
          have fin : Po (some (.int (nI e.1))) (HA fm X (ab_up s6 81 17 (nI (tkP g L e.2))) t6) := by
            rw [← hPo, hFe]
            refine ⟨rfl, _, t6, rfl, kt5 t6 kt6, fun _ => ⟨kV17 _ _ (kV s6 k6), ab_up_s .., by rw [ab_up_n (by decide)]; exact h26 s6 k6⟩, fun z => ?_⟩
            have z' : e.1 = 0 := z
            have := hR6.2.2.1
            omega
          exact ab_rI ok_Mo_read rfl (fin)
    · intro q s6 t6 hFq k6 kt6 hS6
      obtain ⟨hT6, hR6, hl6, hlq6, h12, ⟨h19, -⟩, hN6, hD6, c, b', hc1, hc2, hc3, hb1, hb2, hb3, hLw⟩ := hS6
      have hn4 : q.1 ≤ 400 := hR6.2.2.1
      have hl5 := hl6.2.1
      have rest : ∀ (x : Int32), ab_Z m_Mo_read (d + 7) (0, 0) Po 86 [some (.ref 81), none] [.int x, .ref 81] (HA fm X s6 t6) → True := fun _ _ => trivial
      refine ab_go ok_Mo_read 3 rfl ?_
      show ab_Z m_Mo_read _ _ _ 75 [_, _] [_, _] _
      rw [hR6.2.1]
      refine ab_go ok_Mo_read 1 rfl ?_
      show ab_Z m_Mo_read _ _ _ 79 [_, _] [_] _
      refine ab_go ok_Mo_read 2 rfl ?_
      show ab_Z m_Mo_read _ _ _ 81 [_, _] [_, _] _
      rw [hl6.1]
      refine ab_br ok_Mo_read rfl rfl ?_ ?_
      · intro h1
        show ab_Z m_Mo_read _ _ _ 85 [_, _] [_] _
        have h0 : (xLt q.2).1 = 0 := by
          have := (nI_leI (show (xLt q.2).1 < 2 ^ 31 by omega) (show 0 < 2 ^ 31 by decide)).mp h1
          omega
        refine ab_go ok_Mo_read 4 rfl ?_
        show ab_Z m_Mo_read _ _ _ 89 [_, _] [_] _
        rw [show ab_up s6 81 17 (-1) 81 13 = 0 from by rw [ab_up_n (by decide)]; exact hR6.2.1]
        refine ab_go ok_Mo_read 1 rfl ?_
        show ab_Z m_Mo_read _ _ _ 93 [_, _] [] _
        refine ab_go ok_Mo_read 2 rfl ?_
        show ab_Z m_Mo_read _ _ _ 95 [_, _] [_] _
        rw [show ab_up s6 81 17 (-1) 81 15 = nI (xLt q.2).1 from by rw [ab_up_n (by decide)]; exact hl6.1, h0]
        refine ab_go ok_Mo_read 1 rfl ?_
        show ab_Z m_Mo_read _ _ _ 99 [_, _] [] _
        refine ab_go ok_Mo_read 5 rfl ?_
        show ab_Z m_Mo_read _ _ _ 104 [_, _] [_] _
        rw [show ab_up s6 81 17 (-1) 81 19 = nI sd from by rw [ab_up_n (by decide)]; exact h19]
        obtain ⟨s7, hs7⟩ : ∃ s7, s7 = ab_up (ab_up s6 81 17 (-1)) 81 18 (nI sd) := ⟨_, rfl⟩
        rw [← hs7]
        have r7 : ∀ y, y ≠ 81 → s7 y = s6 y := fun y hy => by rw [hs7, ab_up_o hy, ab_up_o hy]
        have f7 : ∀ k, k ≠ 17 → k ≠ 18 → s7 81 k = s6 81 k := fun k a1 a2 => by rw [hs7, ab_up_n a2, ab_up_n a1]
        have hD7 : DM s7 sd q.2 := hD6.of (fun y a1 a2 => r7 y (by omega))
        refine ab_cl ok_Mo_read rfl [_] [] rfl ⟨_, _, rfl, rfl, Or.inl ⟨_, _, rfl, rfl⟩⟩ (Nat.le_of_ble_eq_true rfl) (t_Mo_begins (d + 5) fm X s7 t6 hD7 (by rw [hs7, ab_up_s]) hs2) ?_
        rintro _ _ ⟨rfl, gr, rfl, hgr⟩
        show ab_Z m_Mo_read _ _ _ 105 [_, _] [] _
        refine ab_go ok_Mo_read 1 rfl ?_
        show ab_Z m_Mo_read _ _ _ 106 [_, _] [_] _
        refine ab_cl ok_Mo_read rfl [_] [] rfl ⟨_, _, rfl, rfl, Or.inl ⟨_, _, rfl, rfl⟩⟩ (Nat.le_of_ble_eq_true rfl) (t_Mo_keepsRow (d + 6) fm X _ t6) ?_
        rintro _ _ ⟨rfl, rfl⟩
        show ab_Z m_Mo_read _ _ _ 107 [_, _] [] _
        refine ab_go ok_Mo_read 8 rfl ?_
        show ab_Z m_Mo_read _ _ _ 115 [_, _] [] _
        obtain ⟨s8, hs8⟩ : ∃ s8, s8 = ab_ro (ab_up (ab_ro s7 115 gr) 81 52 (nI (xSd q.2))) 114 (f40 (ab_up (ab_ro s7 115 gr) 81 52 (nI (xSd q.2)) 114) (ab_up (ab_ro s7 115 gr) 81 52 (nI (xSd q.2)) 115)) := ⟨_, rfl⟩
        rw [← hs8]
        have r8 : ∀ y, y ≠ 81 → y ≠ 114 → y ≠ 115 → s8 y = s7 y := fun y a1 a2 a3 => by rw [hs8, ab_ro_o a2, ab_up_o a1, ab_ro_o a3]
        have f8 : ∀ k, k ≠ 52 → s8 81 k = s7 81 k := fun k a1 => by rw [hs8, ab_ro_o (by decide), ab_up_n a1, ab_ro_o (by decide)]
        have g8 : s8 81 52 = nI (xSd q.2) := by rw [hs8, ab_ro_o (by decide), ab_up_s]
        have h8 : ∀ j, j < 40 → s8 114 j = rgF q.2 (3 * xNc q.2) j := fun j hj => by rw [hs8, ab_ro_c, f40_lt hj, ab_up_o (by decide), ab_ro_c]; exact hgr j hj
        obtain ⟨s9, hs9⟩ : ∃ s9, s9 = ab_up (ab_up s8 81 56 0) 81 63 0 := ⟨_, rfl⟩
        rw [← hs9]
        have r9 : ∀ y, y ≠ 81 → s9 y = s8 y := fun y a1 => by rw [hs9, ab_up_o a1, ab_up_o a1]
        have f9 : ∀ k, k ≠ 56 → k ≠ 63 → s9 81 k = s8 81 k := fun k a1 a2 => by rw [hs9, ab_up_n a2, ab_up_n a1]
        refine lp_dn 3 (fun i => ∀ sa, (∀ y, y ≠ 127 → sa y = s9 y) → (∀ j, j < i → sa 127 j = 0) → ab_Z m_Mo_read (d + 7) (0, 0) Po 115 [some (.ref 81), some (.int (nI i))] [] (HA fm X sa t6)) ?_ ?_ s9 (fun _ _ => rfl) (fun j hj => absurd hj (by omega))
        · intro sa ea za
          refine ab_go ok_Mo_read 2 rfl ?_
          show ab_Z m_Mo_read _ _ _ 117 [_, _] [_, _] _
          refine ab_go ok_Mo_read 1 rfl ?_
          show ab_Z m_Mo_read _ _ _ 125 [_, _] [] _
          refine ab_go ok_Mo_read 1 rfl ?_
          show ab_Z m_Mo_read _ _ _ 126 [_, _] [_] _
          have fin : Po (some (.int 0)) (HA fm X sa t6) := by
            rw [← hPo, hFq]
            have hN0 : rdN (.inl q) = 0 := h0
            refine ⟨by rw [hN0]; rfl, sa, t6, rfl, kt5 t6 kt6, fun z => absurd hN0 z, fun _ => ⟨fun y k a1 a2 a3 a4 a5 a6 a7 a8 a9 => ?_, q, rfl, ?_, fun k hk => ⟨c, b', by omega, by omega, ?_⟩, ?_, ?_, ?_, ?_, ?_, ?_, za, fun j hj => ?_⟩⟩
            · rw [ea y a9]
              by_cases hy : y = 81
              · subst hy
                have n1 : ∀ j, j = 17 ∨ j = 18 ∨ j = 52 ∨ j = 56 ∨ j = 63 → k ≠ j := fun j hj z => a2 ⟨rfl, by omega⟩
                rw [f9 k (n1 56 (by omega)) (n1 63 (by omega)), f8 k (n1 52 (by omega)), f7 k (n1 17 (by omega)) (n1 18 (by omega))]
                exact kV s6 k6 81 k a1 (fun z => a2 ⟨rfl, by omega⟩) a3 a4 a5 a6
              · rw [r9 y hy, r8 y hy a7 a8, r7 y hy]
                exact kV s6 k6 y k a1 (fun z => hy z.1) a3 a4 a5 a6
            · exact hD7.of (fun y a1 a2 => by rw [ea y (by omega), r9 y (by omega), r8 y (by omega) (by omega) (by omega)])
            · have e : ∀ y, 102 ≤ y → y ≤ 110 → sa y = s6 y := fun y a1 a2 => by rw [ea y (by omega), r9 y (by omega), r8 y (by omega) (by omega) (by omega), r7 y (by omega)]
              exact (hLw k hk).of (by rw [e 102 (by decide) (by decide)]) (by rw [e 103 (by decide) (by decide)]) (fun j _ _ => by rw [e 109 (by decide) (by decide), e 110 (by decide) (by decide)]; exact ⟨rfl, rfl⟩) (fun y j a1 a2 _ _ => by rw [e y (by omega) (by omega)]) (Nat.le_refl _) (Nat.le_refl _)
            · rw [ea 81 (by decide), f9 18 (by decide) (by decide), f8 18 (by decide), hs7, ab_up_s]
            · rw [ea 81 (by decide), f9 17 (by decide) (by decide), f8 17 (by decide), hs7, ab_up_n (by decide), ab_up_s]
            · rw [ea 81 (by decide), f9 2 (by decide) (by decide), f8 2 (by decide), f7 2 (by decide) (by decide)]
              exact h26 s6 k6
            · rw [ea 81 (by decide), hs9, ab_up_n (by decide), ab_up_s]
            · rw [ea 81 (by decide), hs9, ab_up_s]
            · rw [ea 81 (by decide), f9 52 (by decide) (by decide)]
              exact g8
            · rw [ea 114 (by decide), r9 114 (by decide)]
              exact h8 j hj
          exact ab_rI ok_Mo_read rfl (fin)
        · intro i hi ih sa ea za
          rw [nI_succ i] at ih
          refine ab_go ok_Mo_read 2 rfl ?_
          show ab_Z m_Mo_read _ _ _ 117 [_, _] [_, _] _
          refine ab_br ok_Mo_read rfl rfl ?_ ?_
          · intro h3
            show ab_Z m_Mo_read _ _ _ 125 [_, _] [] _
            exact absurd h3 (lp_in (N := 3) (by decide) hi)
          · intro h3
            show ab_Z m_Mo_read _ _ _ 118 [_, _] [] _
            refine ab_go ok_Mo_read 4 rfl ?_
            show ab_Z m_Mo_read _ _ _ 122 [_, _] [_, _, _] _
            first | (refine ab_bs1 ok_Mo_read rfl rfl (k := i) (by first | rfl | (simp only [LL1, LL2, LL3, LL4, LL5, LL6, LL7, LL8, LL10, LL15, LL18, LL20, LL21, LL22, LL23, LL24, LL32, LL39, LL40, LL130, LL420, pk_mul, nI_add]; done) | (simp only [LL1, LL2, LL3, LL4, LL5, LL6, LL7, LL8, LL10, LL15, LL18, LL20, LL21, LL22, LL23, LL24, LL32, LL39, LL40, LL130, LL420, pk_mul, nI_add]; congr 1; omega)) (by omega) (Nat.le_of_ble_eq_true rfl) ?_) | (refine ab_bs2 ok_Mo_read rfl rfl (k := i) (by first | rfl | (simp only [LL1, LL2, LL3, LL4, LL5, LL6, LL7, LL8, LL10, LL15, LL18, LL20, LL21, LL22, LL23, LL24, LL32, LL39, LL40, LL130, LL420, pk_mul, nI_add]; done) | (simp only [LL1, LL2, LL3, LL4, LL5, LL6, LL7, LL8, LL10, LL15, LL18, LL20, LL21, LL22, LL23, LL24, LL32, LL39, LL40, LL130, LL420, pk_mul, nI_add]; congr 1; omega)) (by omega) (Nat.le_of_ble_eq_true rfl) ?_)
            show ab_Z m_Mo_read _ _ _ 123 [_, _] [] _
            refine ab_go ok_Mo_read 2 rfl ?_
            show ab_Z m_Mo_read _ _ _ 115 [_, _] [] _
            refine ih _ (fun y hy => by rw [ab_up_o hy]; exact ea y hy) (fun j hj => ?_)
            by_cases hji : j = i
            · subst hji
              rw [ab_up_s]
              decide
            · rw [ab_up_n hji]
              exact za j (by omega)
      · intro h1
        show ab_Z m_Mo_read _ _ _ 82 [_, _] [_] _
        have h0 : (xLt q.2).1 ≠ 0 := fun z => h1 (by rw [z]; exact lp_out 0)
        refine ab_go ok_Mo_read 6 rfl ?_
        show ab_Z m_Mo_read _ _ _ 89 [_, _] [_] _
        rw [hl6.2.2 h0, show ab_up s6 81 17 (nI (tkP g L (xLt q.2).2)) 81 13 = 0 from by rw [ab_up_n (by decide)]; exact hR6.2.1]
        refine ab_go ok_Mo_read 1 rfl ?_
        show ab_Z m_Mo_read _ _ _ 93 [_, _] [] _
        refine ab_go ok_Mo_read 2 rfl ?_
        show ab_Z m_Mo_read _ _ _ 95 [_, _] [_] _
        rw [show ab_up s6 81 17 (nI (tkP g L (xLt q.2).2)) 81 15 = nI (xLt q.2).1 from by rw [ab_up_n (by decide)]; exact hl6.1]
        refine ab_br ok_Mo_read rfl rfl ?_ ?_
        · intro h3
          show ab_Z m_Mo_read _ _ _ 99 [_, _] [] _
          exact absurd h3 h1
        · intro h3
          show ab_Z m_Mo_read _ _ _ 96 [_, _] [] _
          refine ab_go ok_Mo_read 2 rfl ?_
          show ab_Z m_Mo_read _ _ _ 98 [_, _] [_] _
          rw [show ab_up s6 81 17 (nI (tkP g L (xLt q.2).2)) 81 15 = nI (xLt q.2).1 from by rw [ab_up_n (by decide)]; exact hl6.1]
          have fin : Po (some (.int (nI (xLt q.2).1))) (HA fm X (ab_up s6 81 17 (nI (tkP g L (xLt q.2).2))) t6) := by
            rw [← hPo, hFq]
            refine ⟨rfl, _, t6, rfl, kt5 t6 kt6, fun _ => ⟨kV17 _ _ (kV s6 k6), ab_up_s .., by rw [ab_up_n (by decide)]; exact h26 s6 k6⟩, fun z => absurd z h0⟩
          exact ab_rI ok_Mo_read rfl (fin)
  refine ab_T_of (M := m_Mo_read) rfl rfl (Nat.le_of_ble_eq_true rfl) ?_
  show ab_Z m_Mo_read _ _ _ 0 [_, _] [] _
  refine ab_go ok_Mo_read 6 rfl ?_
  show ab_Z m_Mo_read _ _ _ 6 [_, _] [] _
  rw [hL]
  refine lp_dn L (fun k => ∀ g, (∀ j, j < k → g j = s 82 j) → ab_Z m_Mo_read (d + 7) (0, 0) Po 6 [some (.ref 81), some (.int (nI k))] [] (HA fm X (ab_ro (ab_up s 81 4 (nI L)) 83 g) t)) ?_ ?_ (ab_up s 81 4 (nI L) 83) (fun j hj => absurd hj (by omega)) |> fun h => by rw [ro_id] at h; exact h
  · intro g hg
    refine ab_go ok_Mo_read 3 rfl ?_
    show ab_Z m_Mo_read _ _ _ 9 [_, _] [_, _] _
    rw [show ab_ro (ab_up s 81 4 (nI L)) 83 g 81 4 = nI L from by rw [ab_ro_o (by decide), ab_up_s]]
    refine ab_br ok_Mo_read rfl rfl ?_ ?_
    · intro h1
      show ab_Z m_Mo_read _ _ _ 20 [_, _] [] _
      exact main g hg
    · intro h1
      show ab_Z m_Mo_read _ _ _ 10 [_, _] [] _
      exact absurd (lp_out _) h1
  · intro k hk ih g hg
    rw [nI_succ k] at ih
    refine ab_go ok_Mo_read 3 rfl ?_
    show ab_Z m_Mo_read _ _ _ 9 [_, _] [_, _] _
    rw [show ab_ro (ab_up s 81 4 (nI L)) 83 g 81 4 = nI L from by rw [ab_ro_o (by decide), ab_up_s]]
    refine ab_br ok_Mo_read rfl rfl ?_ ?_
    · intro h1
      show ab_Z m_Mo_read _ _ _ 20 [_, _] [] _
      exact absurd h1 (lp_in (by omega) hk)
    · intro h1
      show ab_Z m_Mo_read _ _ _ 10 [_, _] [] _
      refine ab_go ok_Mo_read 6 rfl ?_
      show ab_Z m_Mo_read _ _ _ 16 [_, _] [_, _, _, _] _
      first | (refine ab_ba1 ok_Mo_read rfl rfl (k := k) (by first | rfl | (simp only [LL1, LL2, LL3, LL4, LL5, LL6, LL7, LL8, LL10, LL15, LL18, LL20, LL21, LL22, LL23, LL24, LL32, LL39, LL40, LL130, LL420, pk_mul, nI_add]; done) | (simp only [LL1, LL2, LL3, LL4, LL5, LL6, LL7, LL8, LL10, LL15, LL18, LL20, LL21, LL22, LL23, LL24, LL32, LL39, LL40, LL130, LL420, pk_mul, nI_add]; congr 1; omega)) (by omega) (Nat.le_of_ble_eq_true rfl) ?_) | (refine ab_ba2 ok_Mo_read rfl rfl (k := k) (by first | rfl | (simp only [LL1, LL2, LL3, LL4, LL5, LL6, LL7, LL8, LL10, LL15, LL18, LL20, LL21, LL22, LL23, LL24, LL32, LL39, LL40, LL130, LL420, pk_mul, nI_add]; done) | (simp only [LL1, LL2, LL3, LL4, LL5, LL6, LL7, LL8, LL10, LL15, LL18, LL20, LL21, LL22, LL23, LL24, LL32, LL39, LL40, LL130, LL420, pk_mul, nI_add]; congr 1; omega)) (by omega) (Nat.le_of_ble_eq_true rfl) ?_)
      show ab_Z m_Mo_read _ _ _ 17 [_, _] [_, _, _] _
      first | (refine ab_bs1 ok_Mo_read rfl rfl (k := k) (by first | rfl | (simp only [LL1, LL2, LL3, LL4, LL5, LL6, LL7, LL8, LL10, LL15, LL18, LL20, LL21, LL22, LL23, LL24, LL32, LL39, LL40, LL130, LL420, pk_mul, nI_add]; done) | (simp only [LL1, LL2, LL3, LL4, LL5, LL6, LL7, LL8, LL10, LL15, LL18, LL20, LL21, LL22, LL23, LL24, LL32, LL39, LL40, LL130, LL420, pk_mul, nI_add]; congr 1; omega)) (by omega) (Nat.le_of_ble_eq_true rfl) ?_) | (refine ab_bs2 ok_Mo_read rfl rfl (k := k) (by first | rfl | (simp only [LL1, LL2, LL3, LL4, LL5, LL6, LL7, LL8, LL10, LL15, LL18, LL20, LL21, LL22, LL23, LL24, LL32, LL39, LL40, LL130, LL420, pk_mul, nI_add]; done) | (simp only [LL1, LL2, LL3, LL4, LL5, LL6, LL7, LL8, LL10, LL15, LL18, LL20, LL21, LL22, LL23, LL24, LL32, LL39, LL40, LL130, LL420, pk_mul, nI_add]; congr 1; omega)) (by omega) (Nat.le_of_ble_eq_true rfl) ?_)
      show ab_Z m_Mo_read _ _ _ 18 [_, _] [] _
      refine ab_go ok_Mo_read 2 rfl ?_
      show ab_Z m_Mo_read _ _ _ 6 [_, _] [] _
      rw [ro_up, show ab_ro (ab_up s 81 4 (nI L)) 83 g 82 k = s 82 k from by rw [ab_ro_o (by decide), ab_up_o (by decide)], hby k hk]
      refine ih _ (fun j hj => ?_)
      show (if j = k then s 82 k else g j) = s 82 j
      by_cases hjk : j = k
      · rw [if_pos hjk, hjk]
      · rw [if_neg hjk]
        exact hg j (by omega)
end

