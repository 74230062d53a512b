/-! plan: the best, the fewest -/
theorem bsB_h {s s' : Nat → Nat → Int32} (h : KpH s s') (PT PB : List (List Ins)) (nd : Nat) : ∀ c, bsB s' PT PB nd c = bsB s PT PB nd c
  | 0 => rfl
  | c + 1 => by rw [bsB, bsB, bsB_h h PT PB nd c, opN_h h, show plC s' PT nd c (opN s nd) = plC s PT nd c (opN s nd) from funext fun A => plC_h h PT nd c _ A, show plS s' PT PB nd c = plS s PT PB nd c from funext fun A => plS_h h PT PB nd c A]
theorem bstV_h {s s' : Nat → Nat → Int32} (h : KpH s s') (PT PB : List (List Ins)) (nc nd : Nat) : bstV s' PT PB nc nd = bstV s PT PB nc nd := by
  unfold bstV
  rw [bsB_h h]
theorem mvF_cg {B B' : Nat → Int32} : ∀ {n : Nat}, (∀ k, k < n → B k = B' k) → mvF B n = mvF B' n
  | 0, _ => rfl
  | n + 1, h => by rw [mvF, mvF, mvF_cg (fun k hk => h k (by omega)), h n (by omega)]
def rcS (C : Nat → Bool) (S : Nat) (acc : Nat → Bool) (P : Nat) : Nat → Bool := fun i => acc i || (C P && decide (i = S ||| P))
def rcF (A C : Nat → Bool) (op : Nat) : Nat → Nat → Bool
  | 0 => fun _ => false
  | S + 1 => if A S = true then (chL (anN op S) 64 (anN op S)).foldl (rcS C S) (fun i => rcF A C op S i || decide (i = S)) else rcF A C op S
def rchB (A C : Nat → Bool) (op : Nat) : Nat → Bool := rcF A C op 64
/-- which sets of deeds these clerks can seal -/
def rT (C : Nat → Nat → Bool) (op : Nat) : Nat → Nat → Nat → Bool
  | 0, _ => fun i => decide (i = 0)
  | l + 1, S => if S.testBit l = true then rchB (rT C op l (S % 2 ^ l)) (C l) op else rT C op l S
def fewV (R : Nat → Bool) : Nat → Int32
  | 0 => -2
  | k + 1 => if (fewV R k = -2 ∨ bcF (nI k) < bcF (fewV R k)) ∧ R k = true then nI k else fewV R k
def fewA (s : Nat → Nat → Int32) (PT : List (List Ins)) (nc nd : Nat) : Int32 := fewV (fun S => rT (fun c => plC s PT nd c (opN s nd)) (opN s nd) nc S (opN s nd)) (2 ^ nc)
theorem fewA_h {s s' : Nat → Nat → Int32} (h : KpH s s') (PT : List (List Ins)) (nc nd : Nat) : fewA s' PT nc nd = fewA s PT nc nd := by
  unfold fewA
  rw [opN_h h, show (fun c => plC s' PT nd c (opN s nd)) = (fun c => plC s PT nd c (opN s nd)) from funext fun c => funext fun A => plC_h h PT nd c _ A]
theorem rcS_cg {C C' : Nat → Bool} (h : ∀ P, P < 64 → C P = C' P) (S : Nat) : ∀ (l : List Nat) (a : Nat → Bool), (∀ P ∈ l, P < 64) → l.foldl (rcS C S) a = l.foldl (rcS C' S) a
  | [], _, _ => rfl
  | P :: l, a, hl => by
    rw [List.foldl_cons, List.foldl_cons, show rcS C S a P = rcS C' S a P from by unfold rcS; rw [h P (hl P (by simp))]]
    exact rcS_cg h S l _ (fun Q hQ => hl Q (by simp [hQ]))
theorem shl_le5 : ∀ n, n ≤ 5 → (1 : Int32) <<< (nI n &&& 31) = nI (2 ^ n) := by decide
section
variable (d : Nat) (fm : Value) (X : Nat × (Nat → Int32)) (s : Nat → Nat → Int32) (t : Nat → Nat → Int64)
variable {nc nd nt : Nat} {PT PG PB PF : List (List Ins)}
theorem t_JA_fill_50 (v : Int32) : ab_T g_JA_fill d (0, 0) [.ref 50, .int v] (HA fm X s t) (PV (HA fm X (ab_ro s 50 (fun j => if j < 64 then v else s 50 j)) t)) := by
  refine ab_T_of (M := m_JA_fill) rfl rfl (Nat.le_of_ble_eq_true rfl) ?_
  show ab_Z m_JA_fill _ _ _ 0 [_, _, _, _] [] _
  refine ab_go ok_JA_fill 5 rfl ?_
  show ab_Z m_JA_fill _ _ _ 5 [_, _, _, _] [] _
  have e0 : s = ab_ro s 50 (fun j => if j < 0 then v else s 50 j) := by
    funext c j
    unfold ab_ro
    by_cases hc : c = 50
    · simp [hc]
    · simp [hc]
  refine Eq.mpr (congrArg (fun z => ab_Z m_JA_fill d (0, 0) _ 5 [some (.ref 50), some (.int v), some (.int 0), some (.int (Int32.ofNat 64))] [] (HA fm X z t)) e0) ?_
  refine lp_dn 64 (fun k => ab_Z m_JA_fill d (0, 0) _ 5 [some (.ref 50), some (.int v), some (.int (nI k)), some (.int (Int32.ofNat 64))] [] (HA fm X (ab_ro s 50 (fun j => if j < k then v else s 50 j)) t)) ?_ ?_
  · refine ab_go ok_JA_fill 2 rfl ?_
    show ab_Z m_JA_fill _ _ _ 7 [_, _, _, _] [_, _] _
    refine ab_go ok_JA_fill 1 rfl ?_
    show ab_Z m_JA_fill _ _ _ 14 [_, _, _, _] [] _
    exact ab_rV ok_JA_fill rfl (⟨rfl, rfl⟩)
  · intro k hk ih
    refine ab_go ok_JA_fill 2 rfl ?_
    show ab_Z m_JA_fill _ _ _ 7 [_, _, _, _] [_, _] _
    refine ab_br ok_JA_fill rfl rfl ?_ ?_
    · intro hc
      show ab_Z m_JA_fill _ _ _ 14 [_, _, _, _] [] _
      exact absurd hc (lp_in (N := 64) (by decide) hk)
    · intro hc
      show ab_Z m_JA_fill _ _ _ 8 [_, _, _, _] [] _
      refine ab_go ok_JA_fill 3 rfl ?_
      show ab_Z m_JA_fill _ _ _ 11 [_, _, _, _] [_, _, _] _
      refine ab_ck ok_JA_fill rfl rfl (by rw [nI_t (by omega)]; omega) ?_
      show ab_Z m_JA_fill _ _ _ 12 [_, _, _, _] [] _
      refine ab_go ok_JA_fill 2 rfl ?_
      show ab_Z m_JA_fill _ _ _ 5 [_, _, _, _] [] _
      have e : ab_up (ab_ro s 50 (fun j => if j < k then v else s 50 j)) 50 k v = ab_ro s 50 (fun j => if j < k + 1 then v else s 50 j) := by
        funext c j
        unfold ab_up ab_ro
        by_cases hc : c = 50
        · simp only [hc, if_true]
          by_cases h1 : j = k
          · simp [h1]
          · simp only [h1, if_false]
            by_cases h2 : j < k
            · rw [if_pos h2, if_pos (by omega)]
            · rw [if_neg h2, if_neg (by omega)]
        · simp [hc]
      rw [nI_c (by omega), e, ← nI_succ]
      exact ih
theorem t_Pl_bestScore (hC : CI s nc nd nt PT PG PB PF) (hP : POk s t PT PB nc nd) : ab_T g_Pl_bestScore (d + 2) (0, 0) [.ref 45] (HA fm X s t) (fun v h => v = some (.int (bstV s PT PB nc nd)) ∧ ∃ s', h = HA fm X s' t ∧ ∀ x, x ≠ 50 → s' x = s x) := by
  have h5 : nc ≤ 5 := hC.1.2.1
  have h6 : nd ≤ 6 := hC.1.2.2.2.1
  generalize hPo : (fun v h => v = some (.int (bstV s PT PB nc nd)) ∧ ∃ s', h = HA fm X s' t ∧ ∀ x, x ≠ 50 → s' x = s x : Option Value → ab_H → Prop) = Po
  refine ab_T_of (M := m_Pl_bestScore) rfl rfl (Nat.le_of_ble_eq_true rfl) ?_
  show ab_Z m_Pl_bestScore _ _ _ 0 [_, _, _, _] [] _
  refine ab_go ok_Pl_bestScore 3 rfl ?_
  show ab_Z m_Pl_bestScore _ _ _ 3 [_, _, _, _] [_, _] _
  refine ab_cl ok_Pl_bestScore rfl [_, _] [] rfl rfl (Nat.le_of_ble_eq_true rfl) (t_JA_fill_50 (d + 1) fm X s t (-1000000000)) ?_
  rintro _ _ ⟨rfl, rfl⟩
  show ab_Z m_Pl_bestScore _ _ _ 4 [_, _, _, _] [] _
  refine ab_go ok_Pl_bestScore 4 rfl ?_
  show ab_Z m_Pl_bestScore _ _ _ 8 [_, _, _, _] [_, _, _] _
  refine ab_cl ok_Pl_bestScore rfl [_, _, _] [] rfl rfl (Nat.le_of_ble_eq_true rfl) (t_SF_put_50 (d + 1) fm X _ t _ 0 0 (by decide) rfl) ?_
  rintro _ _ ⟨rfl, rfl⟩
  show ab_Z m_Pl_bestScore _ _ _ 9 [_, _, _, _] [] _
  refine ab_go ok_Pl_bestScore 3 rfl ?_
  show ab_Z m_Pl_bestScore _ _ _ 12 [_, _, _, _] [_, _] _
  generalize hs0 : ab_up (ab_ro s 50 (fun j => if j < 64 then (-1000000000) else s 50 j)) 50 0 0 = s0
  have hk0 : ∀ x, x ≠ 50 → s0 x = s x := fun x hx => by rw [← hs0, ab_up_o hx, ab_ro_o hx]
  have hb0 : ∀ S, S < 64 → s0 50 S = bsB s PT PB nd 0 S := fun S hS => by
    rw [← hs0, bsB, bB0]
    by_cases h0 : S = 0
    · subst h0; rw [ab_up_s]; rfl
    · rw [ab_up_n h0, ab_ro_c, if_pos hS, if_neg h0]
  refine ab_cl ok_Pl_bestScore rfl [_, _] [] rfl ⟨_, _, rfl, rfl, Or.inl ⟨_, _, rfl, rfl⟩⟩ (Nat.le_of_ble_eq_true rfl) (t_Ha_deedsWith d fm X s0 t (-2) (by rw [hk0 14 (by decide)]; exact hC.1.2.2.1) h6) ?_
  rintro _ _ ⟨rfl, rfl⟩
  show ab_Z m_Pl_bestScore _ _ _ 13 [_, _, _, _] [_] _
  rw [show bitsN (fun k => decide (s0 11 (33 + k) = -2)) nd = opN s nd from by rw [hk0 11 (by decide)]; rfl]
  refine ab_go ok_Pl_bestScore 3 rfl ?_
  show ab_Z m_Pl_bestScore _ _ _ 16 [_, _, _, _] [] _
  refine lp_dn nc (fun c => ∀ s1, (∀ x, x ≠ 50 → s1 x = s x) → (∀ S, S < 64 → s1 50 S = bsB s PT PB nd c S) → ab_Z m_Pl_bestScore (d + 2) (0, 0) Po 16 [some (.ref 45), some (.int (nI (opN s nd))), some (.int (nI c)), none] [] (HA fm X s1 t)) ?_ ?_ s0 hk0 hb0
  · intro s1 hk q
    refine ab_go ok_Pl_bestScore 5 rfl ?_
    show ab_Z m_Pl_bestScore _ _ _ 21 [_, _, _, _] [_, _] _
    rw [show s1 14 11 = nI nc from by rw [hk 14 (by decide)]; exact hC.1.1]
    refine ab_br ok_Pl_bestScore rfl rfl ?_ ?_
    · intro h1
      show ab_Z m_Pl_bestScore _ _ _ 28 [_, _, _, _] [] _
      refine ab_go ok_Pl_bestScore 4 rfl ?_
      show ab_Z m_Pl_bestScore _ _ _ 32 [_, _, _, _] [] _
      refine lp_dn 64 (fun S => ab_Z m_Pl_bestScore (d + 2) (0, 0) Po 32 [some (.ref 45), none, some (.int (mvF (bsB s PT PB nd nc) S)), some (.int (nI S))] [] (HA fm X s1 t)) ?_ ?_
      · refine ab_go ok_Pl_bestScore 4 rfl ?_
        show ab_Z m_Pl_bestScore _ _ _ 36 [_, _, _, _] [_, _] _
        refine ab_go ok_Pl_bestScore 1 rfl ?_
        show ab_Z m_Pl_bestScore _ _ _ 46 [_, _, _, _] [] _
        refine ab_go ok_Pl_bestScore 1 rfl ?_
        show ab_Z m_Pl_bestScore _ _ _ 47 [_, _, _, _] [_] _
        have fin : Po (some (.int (mvF (bsB s PT PB nd nc) 64))) (HA fm X s1 t) := by
          rw [← hPo]
          exact ⟨rfl, s1, rfl, hk⟩
        exact ab_rI ok_Pl_bestScore rfl (fin)
      · intro S hS ih
        refine ab_go ok_Pl_bestScore 4 rfl ?_
        show ab_Z m_Pl_bestScore _ _ _ 36 [_, _, _, _] [_, _] _
        refine ab_br ok_Pl_bestScore rfl rfl ?_ ?_
        · intro h2
          show ab_Z m_Pl_bestScore _ _ _ 46 [_, _, _, _] [] _
          exact absurd h2 (lp_in (N := 64) (by decide) hS)
        · intro h2
          show ab_Z m_Pl_bestScore _ _ _ 37 [_, _, _, _] [] _
          refine ab_go ok_Pl_bestScore 4 rfl ?_
          show ab_Z m_Pl_bestScore _ _ _ 41 [_, _, _, _] [_, _, _] _
          refine ab_ck ok_Pl_bestScore rfl rfl (by rw [nI_t (by omega)]; omega) ?_
          show ab_Z m_Pl_bestScore _ _ _ 42 [_, _, _, _] [_, _] _
          rw [nI_c (by omega), q S hS]
          refine ab_cl ok_Pl_bestScore rfl [_, _] [] rfl rfl (Nat.le_of_ble_eq_true rfl) (t_JM_max (d + 1) _ _ _) ?_
          rintro _ _ ⟨rfl, rfl⟩
          show ab_Z m_Pl_bestScore _ _ _ 43 [_, _, _, _] [_] _
          refine ab_go ok_Pl_bestScore 3 rfl ?_
          show ab_Z m_Pl_bestScore _ _ _ 32 [_, _, _, _] [] _
          rw [mvF, nI_succ] at ih
          exact ih
    · intro h1
      show ab_Z m_Pl_bestScore _ _ _ 22 [_, _, _, _] [] _
      exact absurd (lp_out nc) h1
  · intro c hc ih s1 hk q
    refine ab_go ok_Pl_bestScore 5 rfl ?_
    show ab_Z m_Pl_bestScore _ _ _ 21 [_, _, _, _] [_, _] _
    rw [show s1 14 11 = nI nc from by rw [hk 14 (by decide)]; exact hC.1.1]
    refine ab_br ok_Pl_bestScore rfl rfl ?_ ?_
    · intro h1
      show ab_Z m_Pl_bestScore _ _ _ 28 [_, _, _, _] [] _
      exact absurd h1 (lp_in (by omega) hc)
    · intro h1
      show ab_Z m_Pl_bestScore _ _ _ 22 [_, _, _, _] [] _
      refine ab_go ok_Pl_bestScore 3 rfl ?_
      show ab_Z m_Pl_bestScore _ _ _ 25 [_, _, _, _] [_, _, _] _
      refine ab_cl ok_Pl_bestScore rfl [_, _, _] [] rfl ⟨_, _, rfl, rfl, Or.inl ⟨_, _, rfl, rfl⟩⟩ (Nat.le_of_ble_eq_true rfl) (t_Pl_joinClerk d fm X s1 t (show c < 5 by omega) (opN_lt s h6) (bsB s PT PB nd c) (plC s PT nd c (opN s nd)) (plS s PT PB nd c) q (hP c hc).1 (fun A hA a b => by rw [hk 47 (by decide)]; exact (hP c hc).2 A hA a b)) ?_
      rintro _ _ ⟨rfl, s2, rfl, hk2, q2⟩
      show ab_Z m_Pl_bestScore _ _ _ 26 [_, _, _, _] [] _
      refine ab_go ok_Pl_bestScore 2 rfl ?_
      show ab_Z m_Pl_bestScore _ _ _ 16 [_, _, _, _] [] _
      have ih2 := ih s2 (fun x hx => (hk2 x hx).trans (hk x hx)) q2
      rw [nI_succ] at ih2
      exact ih2
theorem t_Pl_mostBound (hC : CI s nc nd nt PT PG PB PF) (hP : POk s t PT PB nc nd) : ab_T g_Pl_mostBound (d + 3) (0, 0) [.ref 45] (HA fm X s t) (fun v h => v = some (.int (bbF (bstV s PT PB nc nd))) ∧ ∃ s', h = HA fm X s' t ∧ ∀ x, x ≠ 50 → s' x = s x) := by
  refine ab_T_of (M := m_Pl_mostBound) rfl rfl (Nat.le_of_ble_eq_true rfl) ?_
  show ab_Z m_Pl_mostBound _ _ _ 0 [_] [] _
  refine ab_go ok_Pl_mostBound 1 rfl ?_
  show ab_Z m_Pl_mostBound _ _ _ 1 [_] [_] _
  refine ab_cl ok_Pl_mostBound rfl [_] [] rfl ⟨_, _, rfl, rfl, Or.inl ⟨_, _, rfl, rfl⟩⟩ (Nat.le_of_ble_eq_true rfl) (t_Pl_bestScore d fm X s t hC hP) ?_
  rintro _ _ ⟨rfl, s1, rfl, hk⟩
  show ab_Z m_Pl_mostBound _ _ _ 2 [_] [_] _
  refine ab_cl ok_Pl_mostBound rfl [_] [] rfl rfl (Nat.le_of_ble_eq_true rfl) (t_Pl_boundBy (d + 1) _ _) ?_
  rintro _ _ ⟨rfl, rfl⟩
  show ab_Z m_Pl_mostBound _ _ _ 3 [_] [_] _
  exact ab_rI ok_Pl_mostBound rfl (⟨rfl, s1, rfl, hk⟩)
theorem t_Pl_sealerFor (hC : CI s nc nd nt PT PG PB PF) (hP : POk s t PT PB nc nd) {e : Nat} (he : e < 6) : ab_T g_Pl_sealerFor (d + 3) (0, 0) [.ref 45, .int (nI e)] (HA fm X s t) (fun v h => v = some (.int (slrV (bstV s PT PB nc nd) e)) ∧ ∃ s', h = HA fm X s' t ∧ ∀ x, x ≠ 50 → s' x = s x) := by
  refine ab_T_of (M := m_Pl_sealerFor) rfl rfl (Nat.le_of_ble_eq_true rfl) ?_
  show ab_Z m_Pl_sealerFor _ _ _ 0 [_, _, _, _, _, _] [] _
  refine ab_go ok_Pl_sealerFor 1 rfl ?_
  show ab_Z m_Pl_sealerFor _ _ _ 1 [_, _, _, _, _, _] [_] _
  refine ab_cl ok_Pl_sealerFor rfl [_] [] rfl ⟨_, _, rfl, rfl, Or.inl ⟨_, _, rfl, rfl⟩⟩ (Nat.le_of_ble_eq_true rfl) (t_Pl_bestScore d fm X s t hC hP) ?_
  rintro _ _ ⟨rfl, s1, rfl, hk⟩
  show ab_Z m_Pl_sealerFor _ _ _ 2 [_, _, _, _, _, _] [_] _
  refine ab_go ok_Pl_sealerFor 2 rfl ?_
  show ab_Z m_Pl_sealerFor _ _ _ 4 [_, _, _, _, _, _] [_] _
  refine ab_cl ok_Pl_sealerFor rfl [_] [] rfl rfl (Nat.le_of_ble_eq_true rfl) (t_Pl_boundBy (d + 1) _ _) ?_
  rintro _ _ ⟨rfl, rfl⟩
  show ab_Z m_Pl_sealerFor _ _ _ 5 [_, _, _, _, _, _] [_] _
  refine ab_go ok_Pl_sealerFor 7 rfl ?_
  show ab_Z m_Pl_sealerFor _ _ _ 12 [_, _, _, _, _, _] [_, _] _
  refine ab_cl ok_Pl_sealerFor rfl [_, _] [] rfl rfl (Nat.le_of_ble_eq_true rfl) (t_SF_at_9000 (d + 2) fm X s1 t _ e he rfl) ?_
  rintro _ _ ⟨rfl, rfl⟩
  show ab_Z m_Pl_sealerFor _ _ _ 13 [_, _, _, _, _, _] [_] _
  refine ab_go ok_Pl_sealerFor 2 rfl ?_
  show ab_Z m_Pl_sealerFor _ _ _ 15 [_, _, _, _, _, _] [_] _
  refine ab_br ok_Pl_sealerFor rfl rfl ?_ ?_
  · intro h1
    show ab_Z m_Pl_sealerFor _ _ _ 22 [_, _, _, _, _, _] [] _
    exact absurd h1 (wg_pos e he)
  · intro h1
    show ab_Z m_Pl_sealerFor _ _ _ 16 [_, _, _, _, _, _] [] _
    refine ab_go ok_Pl_sealerFor 2 rfl ?_
    show ab_Z m_Pl_sealerFor _ _ _ 18 [_, _, _, _, _, _] [_, _] _
    refine ab_ck ok_Pl_sealerFor rfl rfl (wg_n0 e he) ?_
    show ab_Z m_Pl_sealerFor _ _ _ 19 [_, _, _, _, _, _] [_] _
    refine ab_go ok_Pl_sealerFor 1 rfl ?_
    show ab_Z m_Pl_sealerFor _ _ _ 20 [_, _, _, _, _, _] [_, _] _
    refine ab_go ok_Pl_sealerFor 1 rfl ?_
    show ab_Z m_Pl_sealerFor _ _ _ 21 [_, _, _, _, _, _] [_] _
    refine ab_go ok_Pl_sealerFor 3 rfl ?_
    show ab_Z m_Pl_sealerFor _ _ _ 25 [_, _, _, _, _, _] [_] _
    rw [show slrV (bstV s PT PB nc nd) e = if digF (bstV s PT PB nc nd) e = 0 then -2 else digF (bstV s PT PB nc nd) e - 1 from rfl]
    refine ab_br ok_Pl_sealerFor rfl rfl ?_ ?_
    · intro h2
      show ab_Z m_Pl_sealerFor _ _ _ 26 [_, _, _, _, _, _] [] _
      refine ab_go ok_Pl_sealerFor 2 rfl ?_
      show ab_Z m_Pl_sealerFor _ _ _ 31 [_, _, _, _, _, _] [_] _
      exact ab_rI ok_Pl_sealerFor rfl (⟨by rw [if_pos (show digF (bstV s PT PB nc nd) e = 0 from h2)], s1, rfl, hk⟩)
    · intro h2
      show ab_Z m_Pl_sealerFor _ _ _ 28 [_, _, _, _, _, _] [] _
      refine ab_go ok_Pl_sealerFor 3 rfl ?_
      show ab_Z m_Pl_sealerFor _ _ _ 31 [_, _, _, _, _, _] [_] _
      exact ab_rI ok_Pl_sealerFor rfl (⟨by rw [if_neg (show ¬ digF (bstV s PT PB nc nd) e = 0 from h2)]; rfl, s1, rfl, hk⟩)
end

