def wbN (i : Nat) : Nat := (wbI i).toNatClampNeg
theorem wb_n : ∀ i, i < 119 → wbI i = nI (wbN i) ∧ wbN i < 256 ∧ (wbN i ≠ 32 → 97 ≤ wbN i) := by decide +kernel
def wS : Nat → Nat × Nat × (Nat → Nat)
  | 0 => (0, 0, fun _ => 0)
  | i + 1 => if wbN i = 32 then (0, (wS i).2.1 + 1, fun k => if k = (wS i).2.1 then (wS i).1 else (wS i).2.2 k) else ((wS i).1 * 32 + (wbN i - 96), (wS i).2.1, (wS i).2.2)
theorem wS_n : ∀ i, i < 120 → (wS i).2.1 ≤ 21 ∧ (i < 119 → wbN i = 32 → (wS i).2.1 < 21) := by decide +kernel
theorem wS_e : ∀ k, k < 21 → (wS 119).2.2 k = cdL 32 (wdL.getD k []) := by decide +kernel
theorem ro_upL (t : Nat → Nat → Int64) (c : Nat) (f : Nat → Nat) (k a : Nat) : ab_up (ab_ro t c (fun j => lN (f j))) c k (lN a) = ab_ro t c (fun j => lN (if j = k then a else f j)) := by
  funext x j
  by_cases h : x = c
  · subst h
    rw [ab_up_c, ab_ro_c, ab_ro_c]
    show (if j = k then lN a else lN (f j)) = lN (if j = k then a else f j)
    by_cases hj : j = k
    · rw [if_pos hj, if_pos hj]
    · rw [if_neg hj, if_neg hj]
  · rw [ab_up_o h, ab_ro_o h, ab_ro_o h]
section
variable (d : Nat) (s : Nat → Nat → Int32) (t : Nat → Nat → Int64) (ro : Nat → Nat → Value) (X : Nat × (Nat → Int32))
theorem u_SF_putLong_7 {k : Nat} (hk : k < 21) (v : Int64) : ab_T g_SF_putLong d (0, 0) [.ref 7, .int (nI k), .long v] (H8 s t ro X) (PV (H8 s (ab_up t 7 k v) ro X)) := by
  refine ab_T_of (M := m_SF_putLong) rfl rfl (Nat.le_of_ble_eq_true rfl) ?_
  show ab_Z m_SF_putLong _ _ _ 0 [_, _, _, _] [] _
  refine ab_go ok_SF_putLong 1 rfl ?_
  show ab_Z m_SF_putLong _ _ _ 1 [_, _, _, _] [_] _
  refine ab_br ok_SF_putLong rfl rfl ?_ ?_
  · intro h1
    show ab_Z m_SF_putLong _ _ _ 10 [_, _, _, _] [] _
    exact absurd h1 (nI_l0 (by omega))
  · intro h1
    show ab_Z m_SF_putLong _ _ _ 2 [_, _, _, _] [] _
    refine ab_go ok_SF_putLong 3 rfl ?_
    show ab_Z m_SF_putLong _ _ _ 5 [_, _, _, _] [_, _] _
    refine ab_br ok_SF_putLong rfl rfl ?_ ?_
    · intro h2
      show ab_Z m_SF_putLong _ _ _ 10 [_, _, _, _] [] _
      exact absurd h2 (lp_in (N := 21) (by decide) hk)
    · intro h2
      show ab_Z m_SF_putLong _ _ _ 6 [_, _, _, _] [] _
      refine ab_go ok_SF_putLong 3 rfl ?_
      show ab_Z m_SF_putLong _ _ _ 9 [_, _, _, _] [_, _, _] _
      refine ab_ls ok_SF_putLong rfl rfl (k := k) (by first | rfl | (simp only [LL1, LL2, LL3, LL4, LL5, LL6, LL7, LL8, LL10, LL15, LL18, LL20, LL21, LL22, LL23, LL24, LL32, LL39, LL40, LL130, LL420, pk_mul, nI_add]; done) | (simp only [LL1, LL2, LL3, LL4, LL5, LL6, LL7, LL8, LL10, LL15, LL18, LL20, LL21, LL22, LL23, LL24, LL32, LL39, LL40, LL130, LL420, pk_mul, nI_add]; congr 1; omega)) (by omega) (Nat.le_of_ble_eq_true rfl) ?_
      show ab_Z m_SF_putLong _ _ _ 10 [_, _, _, _] [] _
      exact ab_rV ok_SF_putLong rfl (⟨rfl, rfl⟩)
theorem t_To_init (hv : ro 9006 0 = .null ∨ ∃ a, ro 9006 0 = .ref a) : ab_T g_To_init (d + 4) (4, 1224) [.ref 3] (shA.take 4, s, t, ro, X) (fun r h => r = none ∧ ∃ T, h = H8 (ab_up (ab_ro (ab_ro (ab_ro (ab_ro s 4 (fun _ => 0)) 5 (fun _ => 0)) 6 (fun _ => 0)) 7 (fun _ => 0)) 3 4 0) (ab_ro (ab_ro (ab_ro (ab_ro t 4 (fun _ => 0)) 5 (fun _ => 0)) 6 (fun _ => 0)) 7 T) (ab_up (ab_ro (ab_up (ab_ro (ab_up (ab_ro (ab_up (ab_ro ro 4 (fun _ => .null)) 3 0 (.ref 4)) 5 (fun _ => .null)) 3 1 (.ref 5)) 6 (fun _ => .null)) 3 2 (.ref 6)) 7 (fun _ => .null)) 3 3 (.ref 7)) X ∧ ∀ k w, wdL[k]? = some w → T k = lN (cdL 32 w)) := by
  generalize hPo : (fun r h => r = none ∧ ∃ T, h = H8 (ab_up (ab_ro (ab_ro (ab_ro (ab_ro s 4 (fun _ => 0)) 5 (fun _ => 0)) 6 (fun _ => 0)) 7 (fun _ => 0)) 3 4 0) (ab_ro (ab_ro (ab_ro (ab_ro t 4 (fun _ => 0)) 5 (fun _ => 0)) 6 (fun _ => 0)) 7 T) (ab_up (ab_ro (ab_up (ab_ro (ab_up (ab_ro (ab_up (ab_ro ro 4 (fun _ => .null)) 3 0 (.ref 4)) 5 (fun _ => .null)) 3 1 (.ref 5)) 6 (fun _ => .null)) 3 2 (.ref 6)) 7 (fun _ => .null)) 3 3 (.ref 7)) X ∧ ∀ k w, wdL[k]? = some w → T k = lN (cdL 32 w) : Option Value → ab_H → Prop) = Po
  refine ab_T_of (M := m_To_init) rfl rfl (Nat.le_of_ble_eq_true rfl) ?_
  show ab_Z m_To_init _ _ _ 0 [_, _, _, _, _, _] [] _
  refine ab_go ok_To_init 4 rfl ?_
  show ab_Z m_To_init _ _ _ 4 [_, _, _, _, _, _] [_, _] _
  refine ab_nwI ok_To_init (b' := (3, 823)) rfl (show (401 : Int32) = nI 401 from rfl) (by decide) (n := 4) rfl rfl (by decide) rfl rfl ?_
  show ab_Z m_To_init _ _ _ 5 [_, _, _, _, _, _] [_, _] (shA.take 5, _, _, _, _)
  refine ab_pr ok_To_init rfl rfl (by decide) (by decide) ?_
  show ab_Z m_To_init _ _ _ 6 [_, _, _, _, _, _] [] _
  refine ab_go ok_To_init 2 rfl ?_
  show ab_Z m_To_init _ _ _ 8 [_, _, _, _, _, _] [_, _] _
  refine ab_nwI ok_To_init (b' := (2, 422)) rfl (show (401 : Int32) = nI 401 from rfl) (by decide) (n := 5) rfl rfl (by decide) rfl rfl ?_
  show ab_Z m_To_init _ _ _ 9 [_, _, _, _, _, _] [_, _] (shA.take 6, _, _, _, _)
  refine ab_pr ok_To_init rfl rfl (by decide) (by decide) ?_
  show ab_Z m_To_init _ _ _ 10 [_, _, _, _, _, _] [] _
  refine ab_go ok_To_init 2 rfl ?_
  show ab_Z m_To_init _ _ _ 12 [_, _, _, _, _, _] [_, _] _
  refine ab_nwL ok_To_init (b' := (1, 21)) rfl (show (401 : Int32) = nI 401 from rfl) (by decide) (n := 6) rfl rfl (by decide) rfl rfl ?_
  show ab_Z m_To_init _ _ _ 13 [_, _, _, _, _, _] [_, _] (shA.take 7, _, _, _, _)
  refine ab_pr ok_To_init rfl rfl (by decide) (by decide) ?_
  show ab_Z m_To_init _ _ _ 14 [_, _, _, _, _, _] [] _
  refine ab_go ok_To_init 2 rfl ?_
  show ab_Z m_To_init _ _ _ 16 [_, _, _, _, _, _] [_, _] _
  refine ab_nwL ok_To_init (b' := (0, 0)) rfl (show (21 : Int32) = nI 21 from rfl) (by decide) (n := 7) rfl rfl (by decide) rfl rfl ?_
  show ab_Z m_To_init _ _ _ 17 [_, _, _, _, _, _] [_, _] (shA.take 8, _, _, _, _)
  refine ab_pr ok_To_init rfl rfl (by decide) (by decide) ?_
  show ab_Z m_To_init _ _ _ 18 [_, _, _, _, _, _] [] _
  refine ab_go ok_To_init 9 rfl ?_
  show ab_Z m_To_init _ _ _ 27 [_, _, _, _, _, _] [] _
  have main := lp_dn 119 (fun i => ab_Z m_To_init (d + 4) (0, 0) Po 27 [some (.ref 3), some (.long (lN (wS i).1)), none, some (.int (nI (wS i).2.1)), some (.int (nI i)), none] [] (H8 (ab_up (ab_ro (ab_ro (ab_ro (ab_ro s 4 (fun _ => 0)) 5 (fun _ => 0)) 6 (fun _ => 0)) 7 (fun _ => 0)) 3 4 0) (ab_ro (ab_ro (ab_ro (ab_ro t 4 (fun _ => 0)) 5 (fun _ => 0)) 6 (fun _ => 0)) 7 (fun k => lN ((wS i).2.2 k))) (ab_up (ab_ro (ab_up (ab_ro (ab_up (ab_ro (ab_up (ab_ro ro 4 (fun _ => .null)) 3 0 (.ref 4)) 5 (fun _ => .null)) 3 1 (.ref 5)) 6 (fun _ => .null)) 3 2 (.ref 6)) 7 (fun _ => .null)) 3 3 (.ref 7)) X)) ?_ ?_
  · exact main
  · refine ab_go ok_To_init 2 rfl ?_
    show ab_Z m_To_init _ _ _ 29 [_, _, _, _, _, _] [_, _] _
    refine ab_cl ok_To_init rfl [_] [_] rfl ⟨_, _, rfl, rfl, Or.inr ⟨Or.inl rfl, rfl⟩⟩ (Nat.le_of_ble_eq_true rfl) (u_JS_length (d + 2) _ _ _ X) ?_
    rintro _ _ ⟨rfl, rfl⟩
    show ab_Z m_To_init _ _ _ 30 [_, _, _, _, _, _] [_, _] _
    refine ab_go ok_To_init 1 rfl ?_
    show ab_Z m_To_init _ _ _ 53 [_, _, _, _, _, _] [] _
    have fin : ∀ T, T = (fun k => lN ((wS 119).2.2 k)) → ∀ k w, wdL[k]? = some w → T k = lN (cdL 32 w) := fun T hT k w hw => by
      have hk : k < 21 := (List.getElem?_eq_some_iff.mp hw).1
      rw [hT]
      show lN ((wS 119).2.2 k) = _
      rw [wS_e k hk, List.getD_eq_getElem?_getD, hw]
      rfl
    refine ab_rV ok_To_init rfl ?_
    rw [← hPo]
    exact ⟨rfl, _, rfl, fin _ rfl⟩
  · intro i hi ih
    obtain ⟨w1, w2, w3⟩ := wb_n i hi
    obtain ⟨n1, n2⟩ := wS_n i (by omega)
    rw [nI_succ i, wS] at ih
    refine ab_go ok_To_init 2 rfl ?_
    show ab_Z m_To_init _ _ _ 29 [_, _, _, _, _, _] [_, _] _
    refine ab_cl ok_To_init rfl [_] [_] rfl ⟨_, _, rfl, rfl, Or.inr ⟨Or.inl rfl, rfl⟩⟩ (Nat.le_of_ble_eq_true rfl) (u_JS_length (d + 2) _ _ _ X) ?_
    rintro _ _ ⟨rfl, rfl⟩
    show ab_Z m_To_init _ _ _ 30 [_, _, _, _, _, _] [_, _] _
    refine ab_br ok_To_init rfl rfl ?_ ?_
    · intro h1
      show ab_Z m_To_init _ _ _ 53 [_, _, _, _, _, _] [] _
      exact absurd h1 (lp_in (N := 119) (by decide) hi)
    · intro h1
      show ab_Z m_To_init _ _ _ 31 [_, _, _, _, _, _] [] _
      refine ab_go ok_To_init 2 rfl ?_
      show ab_Z m_To_init _ _ _ 33 [_, _, _, _, _, _] [_, _] _
      refine ab_cl ok_To_init rfl [_, _] [] rfl ⟨_, _, rfl, rfl, Or.inr ⟨Or.inl rfl, rfl⟩⟩ (Nat.le_of_ble_eq_true rfl) (u_JS_charAt d _ _ _ X hi hv) ?_
      rintro _ _ ⟨rfl, rfl⟩
      show ab_Z m_To_init _ _ _ 34 [_, _, _, _, _, _] [_] _
      refine ab_go ok_To_init 3 rfl ?_
      show ab_Z m_To_init _ _ _ 37 [_, _, _, _, _, _] [_, _] _
      rw [w1]
      refine ab_br ok_To_init rfl rfl ?_ ?_
      · intro h2
        show ab_Z m_To_init _ _ _ 43 [_, _, _, _, _, _] [] _
        have h2' := (nI_eq (show wbN i < 2 ^ 31 by omega) (show 32 < 2 ^ 31 by decide)).mp h2
        rw [if_pos h2'] at ih
        refine ab_go ok_To_init 4 rfl ?_
        show ab_Z m_To_init _ _ _ 47 [_, _, _, _, _, _] [_, _, _] _
        refine ab_cl ok_To_init rfl [_, _, _] [] rfl rfl (Nat.le_of_ble_eq_true rfl) (u_SF_putLong_7 (d + 3) _ _ _ X (n2 hi h2') _) ?_
        rintro _ _ ⟨rfl, rfl⟩
        show ab_Z m_To_init _ _ _ 48 [_, _, _, _, _, _] [] _
        refine ab_go ok_To_init 5 rfl ?_
        show ab_Z m_To_init _ _ _ 27 [_, _, _, _, _, _] [] _
        rw [ro_upL]
        rw [nI_succ] at ih
        exact ih
      · intro h2
        show ab_Z m_To_init _ _ _ 38 [_, _, _, _, _, _] [] _
        have h2' : ¬ wbN i = 32 := fun z => h2 (by rw [z]; rfl)
        rw [if_neg h2'] at ih
        refine ab_go ok_To_init 2 rfl ?_
        show ab_Z m_To_init _ _ _ 40 [_, _, _, _, _, _] [_, _] _
        refine ab_cl ok_To_init rfl [_, _] [] rfl rfl (Nat.le_of_ble_eq_true rfl) (t_To_withLetter (d + 3) _ (w3 h2') w2) ?_
        rintro _ _ ⟨rfl, rfl⟩
        show ab_Z m_To_init _ _ _ 41 [_, _, _, _, _, _] [_] _
        refine ab_go ok_To_init 4 rfl ?_
        show ab_Z m_To_init _ _ _ 27 [_, _, _, _, _, _] [] _
        exact ih
end

