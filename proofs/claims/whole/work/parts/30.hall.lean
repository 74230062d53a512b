section
variable (d : Nat) (fm : Value) (X : Nat × (Nat → Int32)) (s : Nat → Nat → Int32) (t : Nat → Nat → Int64)
theorem t_Ha_levelsOf {c : Nat} (hc : c < 5) : ab_T g_Ha_levelsOf (d + 2) (0, 0) [.ref 9, .int (nI c)] (HA fm X s t) (PI (sumV (fun f => s 11 (3 * c + f)) 3) (HA fm X s t)) := by
  refine ab_T_of (M := m_Ha_levelsOf) rfl rfl (Nat.le_of_ble_eq_true rfl) ?_
  show ab_Z m_Ha_levelsOf _ _ _ 0 [_, _, _, _] [] _
  refine ab_go ok_Ha_levelsOf 4 rfl ?_
  show ab_Z m_Ha_levelsOf _ _ _ 4 [_, _, _, _] [] _
  refine lp_dn 3 (fun k => ab_Z m_Ha_levelsOf (d + 2) (0, 0) (PI (sumV (fun f => s 11 (3 * c + f)) 3) (HA fm X s t)) 4 [some (.ref 9), some (.int (nI c)), some (.int (sumV (fun f => s 11 (3 * c + f)) k)), some (.int (nI k))] [] (HA fm X s t)) ?_ ?_
  · refine ab_go ok_Ha_levelsOf 2 rfl ?_
    show ab_Z m_Ha_levelsOf _ _ _ 6 [_, _, _, _] [_, _] _
    refine ab_go ok_Ha_levelsOf 1 rfl ?_
    show ab_Z m_Ha_levelsOf _ _ _ 17 [_, _, _, _] [] _
    refine ab_go ok_Ha_levelsOf 1 rfl ?_
    show ab_Z m_Ha_levelsOf _ _ _ 18 [_, _, _, _] [_] _
    exact ab_rI ok_Ha_levelsOf rfl (⟨rfl, rfl⟩)
  · intro k hk ih
    refine ab_go ok_Ha_levelsOf 2 rfl ?_
    show ab_Z m_Ha_levelsOf _ _ _ 6 [_, _, _, _] [_, _] _
    refine ab_br ok_Ha_levelsOf rfl rfl ?_ ?_
    · intro h1
      show ab_Z m_Ha_levelsOf _ _ _ 17 [_, _, _, _] [] _
      exact absurd h1 (lp_in (N := 3) (by decide) hk)
    · intro h1
      show ab_Z m_Ha_levelsOf _ _ _ 7 [_, _, _, _] [] _
      refine ab_go ok_Ha_levelsOf 5 rfl ?_
      show ab_Z m_Ha_levelsOf _ _ _ 12 [_, _, _, _] [_, _, _, _] _
      refine ab_cl ok_Ha_levelsOf rfl [_, _, _] [_] rfl ⟨_, _, rfl, rfl, Or.inl ⟨_, _, rfl, rfl⟩⟩ (Nat.le_of_ble_eq_true rfl) (t_Sc_levelOf d fm X s t hc hk) ?_
      rintro _ _ ⟨rfl, rfl⟩
      show ab_Z m_Ha_levelsOf _ _ _ 13 [_, _, _, _] [_, _] _
      refine ab_go ok_Ha_levelsOf 4 rfl ?_
      show ab_Z m_Ha_levelsOf _ _ _ 4 [_, _, _, _] [] _
      rw [nI_succ] at ih
      exact ih
theorem t_Ha_allLevels {nc : Nat} (hn : s 14 11 = nI nc) (hc5 : nc ≤ 5) : ab_T g_Ha_allLevels (d + 3) (0, 0) [.ref 9] (HA fm X s t) (PI (sumV (fun c => sumV (fun f => s 11 (3 * c + f)) 3) nc) (HA fm X s t)) := by
  refine ab_T_of (M := m_Ha_allLevels) rfl rfl (Nat.le_of_ble_eq_true rfl) ?_
  show ab_Z m_Ha_allLevels _ _ _ 0 [_, _, _] [] _
  refine ab_go ok_Ha_allLevels 4 rfl ?_
  show ab_Z m_Ha_allLevels _ _ _ 4 [_, _, _] [] _
  refine lp_dn nc (fun k => ab_Z m_Ha_allLevels (d + 3) (0, 0) (PI (sumV (fun c => sumV (fun f => s 11 (3 * c + f)) 3) nc) (HA fm X s t)) 4 [some (.ref 9), some (.int (sumV (fun c => sumV (fun f => s 11 (3 * c + f)) 3) k)), some (.int (nI k))] [] (HA fm X s t)) ?_ ?_
  · refine ab_go ok_Ha_allLevels 4 rfl ?_
    show ab_Z m_Ha_allLevels _ _ _ 8 [_, _, _] [_, _] _
    rw [hn]
    refine ab_br ok_Ha_allLevels rfl rfl ?_ ?_
    · intro h1
      show ab_Z m_Ha_allLevels _ _ _ 17 [_, _, _] [] _
      refine ab_go ok_Ha_allLevels 1 rfl ?_
      show ab_Z m_Ha_allLevels _ _ _ 18 [_, _, _] [_] _
      exact ab_rI ok_Ha_allLevels rfl (⟨rfl, rfl⟩)
    · intro h1
      show ab_Z m_Ha_allLevels _ _ _ 9 [_, _, _] [] _
      exact absurd (lp_out nc) h1
  · intro k hk ih
    refine ab_go ok_Ha_allLevels 4 rfl ?_
    show ab_Z m_Ha_allLevels _ _ _ 8 [_, _, _] [_, _] _
    rw [hn]
    refine ab_br ok_Ha_allLevels rfl rfl ?_ ?_
    · intro h1
      show ab_Z m_Ha_allLevels _ _ _ 17 [_, _, _] [] _
      exact absurd h1 (lp_in (by omega) hk)
    · intro h1
      show ab_Z m_Ha_allLevels _ _ _ 9 [_, _, _] [] _
      refine ab_go ok_Ha_allLevels 3 rfl ?_
      show ab_Z m_Ha_allLevels _ _ _ 12 [_, _, _] [_, _, _] _
      refine ab_cl ok_Ha_allLevels rfl [_, _] [_] rfl ⟨_, _, rfl, rfl, Or.inl ⟨_, _, rfl, rfl⟩⟩ (Nat.le_of_ble_eq_true rfl) (t_Ha_levelsOf d fm X s t (show k < 5 by omega)) ?_
      rintro _ _ ⟨rfl, rfl⟩
      show ab_Z m_Ha_allLevels _ _ _ 13 [_, _, _] [_, _] _
      refine ab_go ok_Ha_allLevels 4 rfl ?_
      show ab_Z m_Ha_allLevels _ _ _ 4 [_, _, _] [] _
      rw [nI_succ] at ih
      exact ih
/-- a sum that goes on -/
def sumF (a : Int32) (f : Nat → Int32) : Nat → Int32
  | 0 => a
  | n + 1 => sumF a f n + f n
def allP (s : Nat → Nat → Int32) : Nat → Int32
  | 0 => 0
  | e + 1 => sumF (allP s e) (fun f => s 11 (15 + 3 * e + f)) 3
theorem t_Ha_allPrints {nd : Nat} (hn : s 14 12 = nI nd) (hn6 : nd ≤ 6) : ab_T g_Ha_allPrints (d + 2) (0, 0) [.ref 9] (HA fm X s t) (PI (allP s nd) (HA fm X s t)) := by
  refine ab_T_of (M := m_Ha_allPrints) rfl rfl (Nat.le_of_ble_eq_true rfl) ?_
  show ab_Z m_Ha_allPrints _ _ _ 0 [_, _, _, _] [] _
  refine ab_go ok_Ha_allPrints 4 rfl ?_
  show ab_Z m_Ha_allPrints _ _ _ 4 [_, _, _, _] [] _
  refine lp_dn nd (fun k => ab_Z m_Ha_allPrints (d + 2) (0, 0) (PI (allP s nd) (HA fm X s t)) 4 [some (.ref 9), some (.int (allP s k)), some (.int (nI k)), none] [] (HA fm X s t)) ?_ ?_
  · refine ab_go ok_Ha_allPrints 4 rfl ?_
    show ab_Z m_Ha_allPrints _ _ _ 8 [_, _, _, _] [_, _] _
    rw [hn]
    refine ab_br ok_Ha_allPrints rfl rfl ?_ ?_
    · intro h1
      show ab_Z m_Ha_allPrints _ _ _ 26 [_, _, _, _] [] _
      refine ab_go ok_Ha_allPrints 1 rfl ?_
      show ab_Z m_Ha_allPrints _ _ _ 27 [_, _, _, _] [_] _
      exact ab_rI ok_Ha_allPrints rfl (⟨rfl, rfl⟩)
    · intro h1
      show ab_Z m_Ha_allPrints _ _ _ 9 [_, _, _, _] [] _
      exact absurd (lp_out nd) h1
  · intro k hk ih
    refine ab_go ok_Ha_allPrints 4 rfl ?_
    show ab_Z m_Ha_allPrints _ _ _ 8 [_, _, _, _] [_, _] _
    rw [hn]
    refine ab_br ok_Ha_allPrints rfl rfl ?_ ?_
    · intro h1
      show ab_Z m_Ha_allPrints _ _ _ 26 [_, _, _, _] [] _
      exact absurd h1 (lp_in (by omega) hk)
    · intro h1
      show ab_Z m_Ha_allPrints _ _ _ 9 [_, _, _, _] [] _
      refine ab_go ok_Ha_allPrints 2 rfl ?_
      show ab_Z m_Ha_allPrints _ _ _ 11 [_, _, _, _] [] _
      refine lp_dn 3 (fun j => ab_Z m_Ha_allPrints (d + 2) (0, 0) (PI (allP s nd) (HA fm X s t)) 11 [some (.ref 9), some (.int (sumF (allP s k) (fun f => s 11 (15 + 3 * k + f)) j)), some (.int (nI k)), some (.int (nI j))] [] (HA fm X s t)) ?_ ?_
      · refine ab_go ok_Ha_allPrints 2 rfl ?_
        show ab_Z m_Ha_allPrints _ _ _ 13 [_, _, _, _] [_, _] _
        refine ab_go ok_Ha_allPrints 1 rfl ?_
        show ab_Z m_Ha_allPrints _ _ _ 24 [_, _, _, _] [] _
        refine ab_go ok_Ha_allPrints 2 rfl ?_
        show ab_Z m_Ha_allPrints _ _ _ 4 [_, _, _, _] [] _
        rw [nI_succ] at ih
        exact ih
      · intro j hj ih2
        refine ab_go ok_Ha_allPrints 2 rfl ?_
        show ab_Z m_Ha_allPrints _ _ _ 13 [_, _, _, _] [_, _] _
        refine ab_br ok_Ha_allPrints rfl rfl ?_ ?_
        · intro h2
          show ab_Z m_Ha_allPrints _ _ _ 24 [_, _, _, _] [] _
          exact absurd h2 (lp_in (N := 3) (by decide) hj)
        · intro h2
          show ab_Z m_Ha_allPrints _ _ _ 14 [_, _, _, _] [] _
          refine ab_go ok_Ha_allPrints 5 rfl ?_
          show ab_Z m_Ha_allPrints _ _ _ 19 [_, _, _, _] [_, _, _, _] _
          refine ab_cl ok_Ha_allPrints rfl [_, _, _] [_] rfl ⟨_, _, rfl, rfl, Or.inl ⟨_, _, rfl, rfl⟩⟩ (Nat.le_of_ble_eq_true rfl) (t_Sc_printOf d fm X s t (show k < 6 by omega) hj) ?_
          rintro _ _ ⟨rfl, rfl⟩
          show ab_Z m_Ha_allPrints _ _ _ 20 [_, _, _, _] [_, _] _
          refine ab_go ok_Ha_allPrints 4 rfl ?_
          show ab_Z m_Ha_allPrints _ _ _ 11 [_, _, _, _] [] _
          rw [nI_succ] at ih2
          exact ih2
def absF (x : Int32) : Int32 := if x < 0 then -x else x
theorem t_Ha_printsDiffer {a b : Nat} (ha : a < 6) (hb : b < 6) : ab_T g_Ha_printsDiffer (d + 2) (0, 0) [.ref 9, .int (nI a), .int (nI b)] (HA fm X s t) (PI (sumV (fun f => absF (s 11 (15 + 3 * a + f) - s 11 (15 + 3 * b + f))) 3) (HA fm X s t)) := by
  refine ab_T_of (M := m_Ha_printsDiffer) rfl rfl (Nat.le_of_ble_eq_true rfl) ?_
  show ab_Z m_Ha_printsDiffer _ _ _ 0 [_, _, _, _, _] [] _
  refine ab_go ok_Ha_printsDiffer 4 rfl ?_
  show ab_Z m_Ha_printsDiffer _ _ _ 4 [_, _, _, _, _] [] _
  refine lp_dn 3 (fun k => ab_Z m_Ha_printsDiffer (d + 2) (0, 0) (PI (sumV (fun f => absF (s 11 (15 + 3 * a + f) - s 11 (15 + 3 * b + f))) 3) (HA fm X s t)) 4 [some (.ref 9), some (.int (nI a)), some (.int (nI b)), some (.int (sumV (fun f => absF (s 11 (15 + 3 * a + f) - s 11 (15 + 3 * b + f))) k)), some (.int (nI k))] [] (HA fm X s t)) ?_ ?_
  · refine ab_go ok_Ha_printsDiffer 2 rfl ?_
    show ab_Z m_Ha_printsDiffer _ _ _ 6 [_, _, _, _, _] [_, _] _
    refine ab_go ok_Ha_printsDiffer 1 rfl ?_
    show ab_Z m_Ha_printsDiffer _ _ _ 24 [_, _, _, _, _] [] _
    refine ab_go ok_Ha_printsDiffer 1 rfl ?_
    show ab_Z m_Ha_printsDiffer _ _ _ 25 [_, _, _, _, _] [_] _
    exact ab_rI ok_Ha_printsDiffer rfl (⟨rfl, rfl⟩)
  · intro k hk ih
    refine ab_go ok_Ha_printsDiffer 2 rfl ?_
    show ab_Z m_Ha_printsDiffer _ _ _ 6 [_, _, _, _, _] [_, _] _
    refine ab_br ok_Ha_printsDiffer rfl rfl ?_ ?_
    · intro h1
      show ab_Z m_Ha_printsDiffer _ _ _ 24 [_, _, _, _, _] [] _
      exact absurd h1 (lp_in (N := 3) (by decide) hk)
    · intro h1
      show ab_Z m_Ha_printsDiffer _ _ _ 7 [_, _, _, _, _] [] _
      refine ab_go ok_Ha_printsDiffer 5 rfl ?_
      show ab_Z m_Ha_printsDiffer _ _ _ 12 [_, _, _, _, _] [_, _, _, _] _
      refine ab_cl ok_Ha_printsDiffer rfl [_, _, _] [_] rfl ⟨_, _, rfl, rfl, Or.inl ⟨_, _, rfl, rfl⟩⟩ (Nat.le_of_ble_eq_true rfl) (t_Sc_printOf d fm X s t ha hk) ?_
      rintro _ _ ⟨rfl, rfl⟩
      show ab_Z m_Ha_printsDiffer _ _ _ 13 [_, _, _, _, _] [_, _] _
      refine ab_go ok_Ha_printsDiffer 4 rfl ?_
      show ab_Z m_Ha_printsDiffer _ _ _ 17 [_, _, _, _, _] [_, _, _, _, _] _
      refine ab_cl ok_Ha_printsDiffer rfl [_, _, _] [_, _] rfl ⟨_, _, rfl, rfl, Or.inl ⟨_, _, rfl, rfl⟩⟩ (Nat.le_of_ble_eq_true rfl) (t_Sc_printOf d fm X s t hb hk) ?_
      rintro _ _ ⟨rfl, rfl⟩
      show ab_Z m_Ha_printsDiffer _ _ _ 18 [_, _, _, _, _] [_, _, _] _
      refine ab_go ok_Ha_printsDiffer 1 rfl ?_
      show ab_Z m_Ha_printsDiffer _ _ _ 19 [_, _, _, _, _] [_, _] _
      refine ab_cl ok_Ha_printsDiffer rfl [_] [_] rfl rfl (Nat.le_of_ble_eq_true rfl) (t_JM_abs (d + 1) _ _) ?_
      rintro _ _ ⟨rfl, rfl⟩
      show ab_Z m_Ha_printsDiffer _ _ _ 20 [_, _, _, _, _] [_, _] _
      refine ab_go ok_Ha_printsDiffer 4 rfl ?_
      show ab_Z m_Ha_printsDiffer _ _ _ 4 [_, _, _, _, _] [] _
      rw [nI_succ] at ih
      exact ih
/-- the first k below n with p; else -2 -/
def fstV (p : Nat → Bool) : Nat → Nat → Int32
  | _, 0 => -2
  | k, n + 1 => if p k then nI k else fstV p (k + 1) n
/-- levels, prints grown, faded k times, as they are walked for a healing, a fading -/
def fdA (s : Nat → Nat → Int32) (PF : List (List Ins)) (e f : Nat) : Nat → Int32
  | 0 => s 11 (15 + 3 * e + f)
  | k + 1 => fdV s PF e f (fdA s PF e f k) (s 11 39 + nI k)
theorem t_Ha_yearsToHeal {P : List (List Ins)} (hL : CLaw s 26 P) {nd c f : Nat} (hn : s 14 12 = nI nd) (hn6 : nd ≤ 6) (hc : c < 5) (hf : f < 3) : ab_T g_Ha_yearsToHeal (d + 4) (0, 0) [.ref 9, .int (nI c), .int (nI f)] (HA fm X s t) (PK (fstV (fun k => decide (levA s P nd c f k = s 17 (3 * c + f))) 0 101) fm X s t) := by
  generalize hV : fstV (fun k => decide (levA s P nd c f k = s 17 (3 * c + f))) 0 101 = V
  refine ab_T_of (M := m_Ha_yearsToHeal) rfl rfl (Nat.le_of_ble_eq_true rfl) ?_
  show ab_Z m_Ha_yearsToHeal _ _ _ 0 [_, _, _, _, _, _] [] _
  refine ab_go ok_Ha_yearsToHeal 4 rfl ?_
  show ab_Z m_Ha_yearsToHeal _ _ _ 4 [_, _, _, _, _, _] [_, _, _] _
  refine ab_cl ok_Ha_yearsToHeal rfl [_, _, _] [] rfl ⟨_, _, rfl, rfl, Or.inl ⟨_, _, rfl, rfl⟩⟩ (Nat.le_of_ble_eq_true rfl) (t_Sc_levelOf (d + 2) fm X s t hc hf) ?_
  rintro _ _ ⟨rfl, rfl⟩
  show ab_Z m_Ha_yearsToHeal _ _ _ 5 [_, _, _, _, _, _] [_] _
  refine ab_go ok_Ha_yearsToHeal 3 rfl ?_
  show ab_Z m_Ha_yearsToHeal _ _ _ 8 [_, _, _, _, _, _] [_, _] _
  refine ab_cl ok_Ha_yearsToHeal rfl [_, _] [] rfl ⟨_, _, rfl, rfl, Or.inl ⟨_, _, rfl, rfl⟩⟩ (Nat.le_of_ble_eq_true rfl) (t_Ha_sealedBy (d + 1) fm X s t _ hn hn6) ?_
  rintro _ _ ⟨rfl, rfl⟩
  show ab_Z m_Ha_yearsToHeal _ _ _ 9 [_, _, _, _, _, _] [_] _
  refine ab_go ok_Ha_yearsToHeal 3 rfl ?_
  show ab_Z m_Ha_yearsToHeal _ _ _ 12 [_, _, _, _, _, _] [] _
  refine lp_dn 101 (fun k => ∀ s1, Kp1 s s1 → V = fstV (fun k => decide (levA s P nd c f k = s 17 (3 * c + f))) k (101 - k) → ab_Z m_Ha_yearsToHeal (d + 4) (0, 0) (PK (V) fm X s t) 12 [some (.ref 9), some (.int (nI c)), some (.int (nI f)), some (.int (levA s P nd c f k)), some (.int (nsV s nd c)), some (.int (nI k))] [] (HA fm X s1 t)) ?_ ?_ s (Kp1.rf s) hV.symm
  · intro s1 hk he
    refine ab_go ok_Ha_yearsToHeal 2 rfl ?_
    show ab_Z m_Ha_yearsToHeal _ _ _ 14 [_, _, _, _, _, _] [_, _] _
    refine ab_go ok_Ha_yearsToHeal 1 rfl ?_
    show ab_Z m_Ha_yearsToHeal _ _ _ 38 [_, _, _, _, _, _] [] _
    refine ab_go ok_Ha_yearsToHeal 1 rfl ?_
    show ab_Z m_Ha_yearsToHeal _ _ _ 39 [_, _, _, _, _, _] [_] _
    exact ab_rI ok_Ha_yearsToHeal rfl (⟨by rw [he]; rfl, s1, rfl, hk⟩)
  · intro k hkn ih s1 hk he
    refine ab_go ok_Ha_yearsToHeal 2 rfl ?_
    show ab_Z m_Ha_yearsToHeal _ _ _ 14 [_, _, _, _, _, _] [_, _] _
    refine ab_br ok_Ha_yearsToHeal rfl rfl ?_ ?_
    · intro h1
      show ab_Z m_Ha_yearsToHeal _ _ _ 38 [_, _, _, _, _, _] [] _
      exact absurd h1 (show ¬ nI 100 < nI k from nI_nlt (by omega) (by decide))
    · intro h1
      show ab_Z m_Ha_yearsToHeal _ _ _ 15 [_, _, _, _, _, _] [] _
      refine ab_go ok_Ha_yearsToHeal 5 rfl ?_
      show ab_Z m_Ha_yearsToHeal _ _ _ 20 [_, _, _, _, _, _] [_, _, _, _] _
      refine ab_cl ok_Ha_yearsToHeal rfl [_, _, _] [_] rfl ⟨_, _, rfl, rfl, Or.inl ⟨_, _, rfl, rfl⟩⟩ (Nat.le_of_ble_eq_true rfl) (t_Te_firstOf (d + 2) fm X s1 t hc hf) ?_
      rintro _ _ ⟨rfl, rfl⟩
      show ab_Z m_Ha_yearsToHeal _ _ _ 21 [_, _, _, _, _, _] [_, _] _
      rw [hk 17 _ rfl]
      rw [show 101 - k = (101 - (k + 1)) + 1 by omega, fstV] at he
      refine ab_br ok_Ha_yearsToHeal rfl rfl ?_ ?_
      · intro h2
        show ab_Z m_Ha_yearsToHeal _ _ _ 22 [_, _, _, _, _, _] [] _
        refine ab_go ok_Ha_yearsToHeal 1 rfl ?_
        show ab_Z m_Ha_yearsToHeal _ _ _ 23 [_, _, _, _, _, _] [_] _
        rw [if_pos (decide_eq_true h2)] at he
        exact ab_rI ok_Ha_yearsToHeal rfl (⟨by rw [he], s1, rfl, hk⟩)
      · intro h2
        show ab_Z m_Ha_yearsToHeal _ _ _ 24 [_, _, _, _, _, _] [] _
        rw [if_neg (by simp [h2])] at he
        refine ab_go ok_Ha_yearsToHeal 7 rfl ?_
        show ab_Z m_Ha_yearsToHeal _ _ _ 31 [_, _, _, _, _, _] [_, _, _, _, _, _] _
        refine ab_cl ok_Ha_yearsToHeal rfl [_] [_, _, _, _, _] rfl ⟨_, _, rfl, rfl, Or.inl ⟨_, _, rfl, rfl⟩⟩ (Nat.le_of_ble_eq_true rfl) (t_Sc_yearNow (d + 3) fm X s1 t) ?_
        rintro _ _ ⟨rfl, rfl⟩
        show ab_Z m_Ha_yearsToHeal _ _ _ 32 [_, _, _, _, _, _] [_, _, _, _, _, _] _
        refine ab_go ok_Ha_yearsToHeal 2 rfl ?_
        show ab_Z m_Ha_yearsToHeal _ _ _ 34 [_, _, _, _, _, _] [_, _, _, _, _, _] _
        refine ab_cl ok_Ha_yearsToHeal rfl [_, _, _, _, _, _] [] rfl ⟨_, _, rfl, rfl, Or.inl ⟨_, _, rfl, rfl⟩⟩ (Nat.le_of_ble_eq_true rfl) (t_Ha_grown d fm X s1 t (CLaw_kp (by simp) hk.to2 hL) hc hf _ _ _) ?_
        rintro _ _ ⟨rfl, s2, rfl, hk2⟩
        show ab_Z m_Ha_yearsToHeal _ _ _ 35 [_, _, _, _, _, _] [_] _
        have ih2 := ih s2 (hk.tr hk2) he
        rw [levA, nI_succ] at ih2
        rw [show s1 11 39 = s 11 39 from hk 11 39 rfl, show s1 17 (3 * c + f) = s 17 (3 * c + f) from hk 17 _ rfl, show s1 16 c = s 16 c from hk 16 _ rfl]
        refine ab_go ok_Ha_yearsToHeal 3 rfl ?_
        show ab_Z m_Ha_yearsToHeal _ _ _ 12 [_, _, _, _, _, _] [] _
        exact ih2
theorem t_Ha_yearsToFade {P : List (List Ins)} (hL : CLaw s 34 P) {e f : Nat} (he6 : e < 6) (hf : f < 3) : ab_T g_Ha_yearsToFade (d + 4) (0, 0) [.ref 9, .int (nI e), .int (nI f)] (HA fm X s t) (PK (fstV (fun k => decide (fdA s P e f k = 0)) 0 101) fm X s t) := by
  generalize hV : fstV (fun k => decide (fdA s P e f k = 0)) 0 101 = V
  refine ab_T_of (M := m_Ha_yearsToFade) rfl rfl (Nat.le_of_ble_eq_true rfl) ?_
  show ab_Z m_Ha_yearsToFade _ _ _ 0 [_, _, _, _, _] [] _
  refine ab_go ok_Ha_yearsToFade 4 rfl ?_
  show ab_Z m_Ha_yearsToFade _ _ _ 4 [_, _, _, _, _] [_, _, _] _
  refine ab_cl ok_Ha_yearsToFade rfl [_, _, _] [] rfl ⟨_, _, rfl, rfl, Or.inl ⟨_, _, rfl, rfl⟩⟩ (Nat.le_of_ble_eq_true rfl) (t_Sc_printOf (d + 2) fm X s t he6 hf) ?_
  rintro _ _ ⟨rfl, rfl⟩
  show ab_Z m_Ha_yearsToFade _ _ _ 5 [_, _, _, _, _] [_] _
  refine ab_go ok_Ha_yearsToFade 3 rfl ?_
  show ab_Z m_Ha_yearsToFade _ _ _ 8 [_, _, _, _, _] [] _
  refine lp_dn 101 (fun k => ∀ s1, Kp1 s s1 → V = fstV (fun k => decide (fdA s P e f k = 0)) k (101 - k) → ab_Z m_Ha_yearsToFade (d + 4) (0, 0) (PK (V) fm X s t) 8 [some (.ref 9), some (.int (nI e)), some (.int (nI f)), some (.int (fdA s P e f k)), some (.int (nI k))] [] (HA fm X s1 t)) ?_ ?_ s (Kp1.rf s) hV.symm
  · intro s1 hk he
    refine ab_go ok_Ha_yearsToFade 2 rfl ?_
    show ab_Z m_Ha_yearsToFade _ _ _ 10 [_, _, _, _, _] [_, _] _
    refine ab_go ok_Ha_yearsToFade 1 rfl ?_
    show ab_Z m_Ha_yearsToFade _ _ _ 28 [_, _, _, _, _] [] _
    refine ab_go ok_Ha_yearsToFade 1 rfl ?_
    show ab_Z m_Ha_yearsToFade _ _ _ 29 [_, _, _, _, _] [_] _
    exact ab_rI ok_Ha_yearsToFade rfl (⟨by rw [he]; rfl, s1, rfl, hk⟩)
  · intro k hkn ih s1 hk he
    refine ab_go ok_Ha_yearsToFade 2 rfl ?_
    show ab_Z m_Ha_yearsToFade _ _ _ 10 [_, _, _, _, _] [_, _] _
    refine ab_br ok_Ha_yearsToFade rfl rfl ?_ ?_
    · intro h1
      show ab_Z m_Ha_yearsToFade _ _ _ 28 [_, _, _, _, _] [] _
      exact absurd h1 (show ¬ nI 100 < nI k from nI_nlt (by omega) (by decide))
    · intro h1
      show ab_Z m_Ha_yearsToFade _ _ _ 11 [_, _, _, _, _] [] _
      refine ab_go ok_Ha_yearsToFade 1 rfl ?_
      show ab_Z m_Ha_yearsToFade _ _ _ 12 [_, _, _, _, _] [_] _
      rw [show 101 - k = (101 - (k + 1)) + 1 by omega, fstV] at he
      refine ab_br ok_Ha_yearsToFade rfl rfl ?_ ?_
      · intro h2
        show ab_Z m_Ha_yearsToFade _ _ _ 13 [_, _, _, _, _] [] _
        refine ab_go ok_Ha_yearsToFade 1 rfl ?_
        show ab_Z m_Ha_yearsToFade _ _ _ 14 [_, _, _, _, _] [_] _
        rw [if_pos (decide_eq_true h2)] at he
        exact ab_rI ok_Ha_yearsToFade rfl (⟨by rw [he], s1, rfl, hk⟩)
      · intro h2
        show ab_Z m_Ha_yearsToFade _ _ _ 15 [_, _, _, _, _] [] _
        rw [if_neg (by simp [h2])] at he
        refine ab_go ok_Ha_yearsToFade 6 rfl ?_
        show ab_Z m_Ha_yearsToFade _ _ _ 21 [_, _, _, _, _] [_, _, _, _, _] _
        refine ab_cl ok_Ha_yearsToFade rfl [_] [_, _, _, _] rfl ⟨_, _, rfl, rfl, Or.inl ⟨_, _, rfl, rfl⟩⟩ (Nat.le_of_ble_eq_true rfl) (t_Sc_yearNow (d + 3) fm X s1 t) ?_
        rintro _ _ ⟨rfl, rfl⟩
        show ab_Z m_Ha_yearsToFade _ _ _ 22 [_, _, _, _, _] [_, _, _, _, _] _
        refine ab_go ok_Ha_yearsToFade 2 rfl ?_
        show ab_Z m_Ha_yearsToFade _ _ _ 24 [_, _, _, _, _] [_, _, _, _, _] _
        refine ab_cl ok_Ha_yearsToFade rfl [_, _, _, _, _] [] rfl ⟨_, _, rfl, rfl, Or.inl ⟨_, _, rfl, rfl⟩⟩ (Nat.le_of_ble_eq_true rfl) (t_Ha_faded d fm X s1 t (CLaw_kp (by simp) hk.to2 hL) he6 hf _ _) ?_
        rintro _ _ ⟨rfl, s2, rfl, hk2⟩
        show ab_Z m_Ha_yearsToFade _ _ _ 25 [_, _, _, _, _] [_] _
        have ih2 := ih s2 (hk.tr hk2) he
        rw [fdA, nI_succ] at ih2
        rw [show s1 11 39 = s 11 39 from hk 11 39 rfl, show s1 20 (3 * e + f) = s 20 (3 * e + f) from hk 20 _ rfl, show s1 19 e = s 19 e from hk 19 _ rfl]
        refine ab_go ok_Ha_yearsToFade 3 rfl ?_
        show ab_Z m_Ha_yearsToFade _ _ _ 8 [_, _, _, _, _] [] _
        exact ih2
def ushr (x k : Int32) : Int32 := (x.toUInt32 >>> (k.toUInt32 &&& Int32.toUInt32 31)).toInt32
def mixF (h v : Int32) : Int32 := ((h ^^^ v) * 1103515245 + 12345) ^^^ ushr ((h ^^^ v) * 1103515245 + 12345) 15
def lotF (seed which : Int32) : Int32 := ushr (mixF (mixF seed 189) which) 1 - ushr (mixF (mixF seed 189) which) 1 / 100 * 100
theorem t_Ha_mixed (h : ab_H) (a b : Int32) : ab_T g_Ha_mixed d (0, 0) [.int a, .int b] h (PI (mixF a b) h) := by
  refine ab_T_of (M := m_Ha_mixed) rfl rfl (Nat.le_of_ble_eq_true rfl) ?_
  show ab_Z m_Ha_mixed _ _ _ 0 [_, _, _] [] _
  refine ab_go ok_Ha_mixed 13 rfl ?_
  show ab_Z m_Ha_mixed _ _ _ 13 [_, _, _] [_] _
  exact ab_rI ok_Ha_mixed rfl (⟨rfl, rfl⟩)
theorem t_Ha_lot (h : ab_H) (a b : Int32) : ab_T g_Ha_lot (d + 1) (0, 0) [.int 100, .int a, .int b] h (PI (lotF a b) h) := by
  refine ab_T_of (M := m_Ha_lot) rfl rfl (Nat.le_of_ble_eq_true rfl) ?_
  show ab_Z m_Ha_lot _ _ _ 0 [_, _, _, _] [] _
  refine ab_go ok_Ha_lot 2 rfl ?_
  show ab_Z m_Ha_lot _ _ _ 2 [_, _, _, _] [_, _] _
  refine ab_cl ok_Ha_lot rfl [_, _] [] rfl rfl (Nat.le_of_ble_eq_true rfl) (t_Ha_mixed d _ _ _) ?_
  rintro _ _ ⟨rfl, rfl⟩
  show ab_Z m_Ha_lot _ _ _ 3 [_, _, _, _] [_] _
  refine ab_go ok_Ha_lot 1 rfl ?_
  show ab_Z m_Ha_lot _ _ _ 4 [_, _, _, _] [_, _] _
  refine ab_cl ok_Ha_lot rfl [_, _] [] rfl rfl (Nat.le_of_ble_eq_true rfl) (t_Ha_mixed d _ _ _) ?_
  rintro _ _ ⟨rfl, rfl⟩
  show ab_Z m_Ha_lot _ _ _ 5 [_, _, _, _] [_] _
  refine ab_go ok_Ha_lot 4 rfl ?_
  show ab_Z m_Ha_lot _ _ _ 9 [_, _, _, _] [_] _
  refine ab_go ok_Ha_lot 1 rfl ?_
  show ab_Z m_Ha_lot _ _ _ 10 [_, _, _, _] [] _
  refine ab_go ok_Ha_lot 2 rfl ?_
  show ab_Z m_Ha_lot _ _ _ 12 [_, _, _, _] [_, _] _
  refine ab_go ok_Ha_lot 1 rfl ?_
  show ab_Z m_Ha_lot _ _ _ 13 [_, _, _, _] [_] _
  refine ab_go ok_Ha_lot 1 rfl ?_
  show ab_Z m_Ha_lot _ _ _ 15 [_, _, _, _] [_] _
  exact ab_rI ok_Ha_lot rfl (⟨rfl, rfl⟩)
def rdV (s : Nat → Nat → Int32) (e : Nat) (seed : Int32) : Int32 := if lotF seed (8 * s 11 39 + nI e) < s 14 14 then (if s 14 11 ≤ s 11 (33 + e) + 1 then 0 else s 11 (33 + e) + 1) else s 11 (33 + e)
theorem t_Ha_readBy {e : Nat} (he : e < 6) (seed : Int32) : ab_T g_Ha_readBy (d + 2) (0, 0) [.ref 9, .int (nI e), .int seed] (HA fm X s t) (PI (rdV s e seed) (HA fm X s t)) := by
  unfold rdV
  refine ab_T_of (M := m_Ha_readBy) rfl rfl (Nat.le_of_ble_eq_true rfl) ?_
  show ab_Z m_Ha_readBy _ _ _ 0 [_, _, _, _] [] _
  refine ab_go ok_Ha_readBy 3 rfl ?_
  show ab_Z m_Ha_readBy _ _ _ 3 [_, _, _, _] [_, _] _
  refine ab_cl ok_Ha_readBy rfl [_, _] [] rfl ⟨_, _, rfl, rfl, Or.inl ⟨_, _, rfl, rfl⟩⟩ (Nat.le_of_ble_eq_true rfl) (t_Sc_sealerOf (d + 1) fm X s t he) ?_
  rintro _ _ ⟨rfl, rfl⟩
  show ab_Z m_Ha_readBy _ _ _ 4 [_, _, _, _] [_] _
  refine ab_go ok_Ha_readBy 6 rfl ?_
  show ab_Z m_Ha_readBy _ _ _ 10 [_, _, _, _] [_, _, _, _] _
  refine ab_cl ok_Ha_readBy rfl [_] [_, _, _] rfl ⟨_, _, rfl, rfl, Or.inl ⟨_, _, rfl, rfl⟩⟩ (Nat.le_of_ble_eq_true rfl) (t_Sc_yearNow (d + 1) fm X s t) ?_
  rintro _ _ ⟨rfl, rfl⟩
  show ab_Z m_Ha_readBy _ _ _ 11 [_, _, _, _] [_, _, _, _] _
  refine ab_go ok_Ha_readBy 3 rfl ?_
  show ab_Z m_Ha_readBy _ _ _ 14 [_, _, _, _] [_, _, _] _
  refine ab_cl ok_Ha_readBy rfl [_, _, _] [] rfl rfl (Nat.le_of_ble_eq_true rfl) (t_Ha_lot d _ _ _) ?_
  rintro _ _ ⟨rfl, rfl⟩
  show ab_Z m_Ha_readBy _ _ _ 15 [_, _, _, _] [_] _
  refine ab_go ok_Ha_readBy 3 rfl ?_
  show ab_Z m_Ha_readBy _ _ _ 18 [_, _, _, _] [_, _] _
  refine ab_br ok_Ha_readBy rfl rfl ?_ ?_
  · intro h1
    show ab_Z m_Ha_readBy _ _ _ 21 [_, _, _, _] [] _
    refine ab_go ok_Ha_readBy 6 rfl ?_
    show ab_Z m_Ha_readBy _ _ _ 27 [_, _, _, _] [_, _] _
    refine ab_br ok_Ha_readBy rfl rfl ?_ ?_
    · intro h2
      show ab_Z m_Ha_readBy _ _ _ 32 [_, _, _, _] [] _
      refine ab_go ok_Ha_readBy 1 rfl ?_
      show ab_Z m_Ha_readBy _ _ _ 33 [_, _, _, _] [_] _
      exact ab_rI ok_Ha_readBy rfl (⟨by rw [if_pos h1, if_pos h2], rfl⟩)
    · intro h2
      show ab_Z m_Ha_readBy _ _ _ 28 [_, _, _, _] [] _
      refine ab_go ok_Ha_readBy 4 rfl ?_
      show ab_Z m_Ha_readBy _ _ _ 33 [_, _, _, _] [_] _
      exact ab_rI ok_Ha_readBy rfl (⟨by rw [if_pos h1, if_neg h2], rfl⟩)
  · intro h1
    show ab_Z m_Ha_readBy _ _ _ 19 [_, _, _, _] [] _
    refine ab_go ok_Ha_readBy 1 rfl ?_
    show ab_Z m_Ha_readBy _ _ _ 20 [_, _, _, _] [_] _
    exact ab_rI ok_Ha_readBy rfl (⟨by rw [if_neg h1], rfl⟩)
end

