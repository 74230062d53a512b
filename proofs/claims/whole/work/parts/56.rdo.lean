/-! the reference: things done -/
def hsh (h : Nat → Int32) : Nat → Int32 := fun k => if k < 1560 then h (k + 40) else h k
def hisF (h r : Nat → Int32) (u : Nat) : Nat → Int32 := if u < 40 then fillR h (40 * u) 40 r else fillR (hsh h) 1560 40 r
def Rec (s s' : Nat → Nat → Int32) (u : Nat) : Prop := (∀ x k, x ≠ 119 → x ≠ 114 → ¬ (x = 81 ∧ k = 56) → s' x k = s x k) ∧ s' 119 = hisF (s 119) (s 114) u ∧ s' 81 56 = nI (if u < 40 then u + 1 else 40) ∧ ∀ j, j < 40 → s' 114 j = s 115 j
/-- a thing done: what was there goes to the history, the row becomes what is now -/
def RecV (s s' T : Nat → Nat → Int32) (nc nd u : Nat) (r : Nat → Int32) : Prop := (∀ x k, w4 x k = false → x ≠ 119 → x ≠ 114 → ¬ (x = 81 ∧ k = 56) → s' x k = s x k) ∧ s' 119 = hisF (s 119) (s 114) u ∧ s' 81 56 = nI (if u < 40 then u + 1 else 40) ∧ vR T nc nd (s' 114) = ab_ro (vR T nc nd (s 114)) 11 r ∧ ∀ j, Ir nc nd j → s' 114 j = s 114 j
theorem RecV.of {s s1 s2 T : Nat → Nat → Int32} {nc nd u : Nat} {r : Nat → Int32} (h5 : nc ≤ 5) (h6 : nd ≤ 6) (hk : Kr w4 s s1) (hR : Rec s1 s2 u) (hv : vR T nc nd (s1 115) = ab_ro (vR T nc nd (s 114)) 11 r) (hz : ∀ j, Ir nc nd j → s1 115 j = s 114 j) : RecV s s2 T nc nd u r := by
  obtain ⟨a, b, c, e⟩ := hR
  refine ⟨fun x k p q1 q2 q3 => (a x k q1 q2 q3).trans (hk x k p), ?_, c, ?_, fun j hj => ?_⟩
  · rw [b, hk.row (c := 119) (fun _ => rfl), hk.row (c := 114) (fun _ => rfl)]
  · rw [vR_cg h5 h6 e, hv]
  · rw [e j (by unfold Ir at hj; omega)]; exact hz j hj
section
variable (d : Nat) (fm : Value) (X : Nat × (Nat → Int32)) (s T : Nat → Nat → Int32) (t : Nat → Nat → Int64)
variable {lv nc nd nt : Nat} {PT PG PB PF : List (List Ins)}
theorem LL1560 : (1560 : Int32) = nI 1560 := rfl
theorem t_Mo_records {u : Nat} (hu : s 81 56 = nI u) (hu4 : u ≤ 40) : ab_T g_Mo_records (d + 1) (0, 0) [.ref 81] (HA fm X s t) (fun v h => v = none ∧ ∃ s', h = HA fm X s' t ∧ Rec s s' u) := by
  generalize hPo : (fun v h => v = none ∧ ∃ s', h = HA fm X s' t ∧ Rec s s' u : Option Value → ab_H → Prop) = Po
  have tail : ∀ (s0 : Nat → Nat → Int32) (u0 : Nat) (l1 : Option Value), (∀ x k, x ≠ 119 → ¬ (x = 81 ∧ k = 56) → s0 x k = s x k) → s0 81 56 = nI u0 → u0 < 40 → fillR (s0 119) (40 * u0) 40 (s 114) = hisF (s 119) (s 114) u → nI (u0 + 1) = nI (if u < 40 then u + 1 else 40) → ab_Z m_Mo_records (d + 1) (0, 0) Po 27 [some (.ref 81), l1] [] (HA fm X s0 t) := by
    intro s0 u0 l1 hk h56 hu0 hh hn
    have h114 : s0 114 = s 114 := funext fun k => hk 114 k (by decide) (fun z => absurd z.1 (by decide))
    have h115 : s0 115 = s 115 := funext fun k => hk 115 k (by decide) (fun z => absurd z.1 (by decide))
    refine ab_go ok_Mo_records 2 rfl ?_
    show ab_Z m_Mo_records _ _ _ 29 [_, _] [] _
    have := lp_dn 40 (fun k => ab_Z m_Mo_records (d + 1) (0, 0) Po 29 [some (.ref 81), some (.int (nI k))] [] (HA fm X (ab_ro s0 119 (fillR (s0 119) (40 * u0) k (s 114))) t)) ?_ ?_
    · rw [fillR_0, ro_id] at this
      exact this
    · refine ab_go ok_Mo_records 2 rfl ?_
      show ab_Z m_Mo_records _ _ _ 31 [_, _] [_, _] _
      refine ab_go ok_Mo_records 1 rfl ?_
      show ab_Z m_Mo_records _ _ _ 47 [_, _] [] _
      refine ab_go ok_Mo_records 7 rfl ?_
      show ab_Z m_Mo_records _ _ _ 54 [_, _] [_] _
      rw [show ab_ro s0 119 (fillR (s0 119) (40 * u0) 40 (s 114)) 81 56 = nI u0 from h56, ← nI_succ]
      refine ab_cl ok_Mo_records rfl [_] [] rfl ⟨_, _, rfl, rfl, Or.inl ⟨_, _, rfl, rfl⟩⟩ (Nat.le_of_ble_eq_true rfl) (t_Mo_keepsRow d fm X _ t) ?_
      rintro _ _ ⟨rfl, rfl⟩
      show ab_Z m_Mo_records _ _ _ 55 [_, _] [] _
      have fin : Po none (HA fm X (ab_ro (ab_up (ab_ro s0 119 (fillR (s0 119) (40 * u0) 40 (s 114))) 81 56 (nI (u0 + 1))) 114 (f40 (ab_up (ab_ro s0 119 (fillR (s0 119) (40 * u0) 40 (s 114))) 81 56 (nI (u0 + 1)) 114) (ab_up (ab_ro s0 119 (fillR (s0 119) (40 * u0) 40 (s 114))) 81 56 (nI (u0 + 1)) 115))) t) := by
        rw [← hPo]
        refine ⟨rfl, _, rfl, fun x k p q r => ?_, ?_, ?_, fun j hj => ?_⟩
        · rw [ab_ro_o q]
          by_cases hx : x = 81
          · subst hx
            rw [ab_up_n (fun z => r ⟨rfl, z⟩), ab_ro_o p]
            exact hk 81 k p r
          · rw [ab_up_o hx, ab_ro_o p]
            exact hk x k p r
        · rw [ab_ro_o (by decide), ab_up_o (by decide), ab_ro_c, hh]
        · rw [ab_ro_o (by decide), ab_up_s, hn]
        · rw [ab_ro_c, f40_lt hj, ab_up_o (by decide), ab_ro_o (by decide), h115]
      exact ab_rV ok_Mo_records rfl (fin)
    · intro k hk4 ih
      refine ab_go ok_Mo_records 2 rfl ?_
      show ab_Z m_Mo_records _ _ _ 31 [_, _] [_, _] _
      refine ab_br ok_Mo_records rfl rfl ?_ ?_
      · intro h1
        show ab_Z m_Mo_records _ _ _ 47 [_, _] [] _
        exact absurd h1 (lp_in (N := 40) (by decide) hk4)
      · intro h1
        show ab_Z m_Mo_records _ _ _ 32 [_, _] [] _
        refine ab_go ok_Mo_records 11 rfl ?_
        show ab_Z m_Mo_records _ _ _ 43 [_, _] [_, _, _, _] _
        refine ab_ia ok_Mo_records rfl rfl (k := k) (by first | rfl | (simp only [LL1, LL2, LL3, LL4, LL5, LL6, LL7, LL8, LL10, LL15, LL18, LL20, LL21, LL22, LL23, LL24, LL32, LL39, LL40, LL130, LL420, pk_mul, nI_add]; done) | (simp only [LL1, LL2, LL3, LL4, LL5, LL6, LL7, LL8, LL10, LL15, LL18, LL20, LL21, LL22, LL23, LL24, LL32, LL39, LL40, LL130, LL420, pk_mul, nI_add]; congr 1; omega)) (by omega) (Nat.le_of_ble_eq_true rfl) ?_
        show ab_Z m_Mo_records _ _ _ 44 [_, _] [_, _, _] _
        rw [show ab_ro s0 119 (fillR (s0 119) (40 * u0) k (s 114)) 114 k = s 114 k from by rw [ab_ro_o (by decide), h114]]
        rw [show ab_ro s0 119 (fillR (s0 119) (40 * u0) k (s 114)) 81 56 = nI u0 from h56]
        refine ab_is ok_Mo_records rfl rfl (k := (40 * u0 + k)) (by first | rfl | (simp only [LL1, LL2, LL3, LL4, LL5, LL6, LL7, LL8, LL10, LL15, LL18, LL20, LL21, LL22, LL23, LL24, LL32, LL39, LL40, LL130, LL420, pk_mul, nI_add]; done) | (simp only [LL1, LL2, LL3, LL4, LL5, LL6, LL7, LL8, LL10, LL15, LL18, LL20, LL21, LL22, LL23, LL24, LL32, LL39, LL40, LL130, LL420, pk_mul, nI_add]; congr 1; omega)) (by omega) (Nat.le_of_ble_eq_true rfl) ?_
        show ab_Z m_Mo_records _ _ _ 45 [_, _] [] _
        rw [ro_up, fillR_s]
        refine ab_go ok_Mo_records 2 rfl ?_
        show ab_Z m_Mo_records _ _ _ 29 [_, _] [] _
        rw [nI_succ] at ih
        exact ih
  refine ab_T_of (M := m_Mo_records) rfl rfl (Nat.le_of_ble_eq_true rfl) ?_
  show ab_Z m_Mo_records _ _ _ 0 [_, _] [] _
  refine ab_go ok_Mo_records 3 rfl ?_
  show ab_Z m_Mo_records _ _ _ 3 [_, _] [_, _] _
  rw [hu]
  refine ab_br ok_Mo_records rfl rfl ?_ ?_
  · intro h1
    show ab_Z m_Mo_records _ _ _ 4 [_, _] [] _
    obtain rfl : u = 40 := by
      have := congrArg Int32.toInt h1
      rw [nI_t (by omega)] at this
      have h40 : (40 : Int32).toInt = 40 := rfl
      omega
    refine ab_go ok_Mo_records 2 rfl ?_
    show ab_Z m_Mo_records _ _ _ 6 [_, _] [] _
    have := lp_dn 1560 (fun k => ab_Z m_Mo_records (d + 1) (0, 0) Po 6 [some (.ref 81), some (.int (nI k))] [] (HA fm X (ab_ro s 119 (fun j => if j < k then s 119 (j + 40) else s 119 j)) t)) ?_ ?_
    · rw [show (fun j => if j < 0 then s 119 (j + 40) else s 119 j) = s 119 from funext fun j => if_neg (by omega), ro_id] at this
      exact this
    · refine ab_go ok_Mo_records 2 rfl ?_
      show ab_Z m_Mo_records _ _ _ 8 [_, _] [_, _] _
      refine ab_go ok_Mo_records 1 rfl ?_
      show ab_Z m_Mo_records _ _ _ 21 [_, _] [] _
      refine ab_go ok_Mo_records 6 rfl ?_
      show ab_Z m_Mo_records _ _ _ 27 [_, _] [] _
      rw [show ab_ro s 119 (fun j => if j < 1560 then s 119 (j + 40) else s 119 j) 81 56 = nI 40 from hu]
      rw [show nI 40 - 1 = nI 39 from rfl]
      refine tail _ 39 _ (fun x k p q => ?_) (ab_up_s ..) (by decide) ?_ rfl
      · by_cases hx : x = 81
        · subst hx
          rw [ab_up_n (fun z => q ⟨rfl, z⟩), ab_ro_o p]
        · rw [ab_up_o hx, ab_ro_o p]
      · rw [ab_up_o (by decide), ab_ro_c]
        rfl
    · intro k hk ih
      refine ab_go ok_Mo_records 2 rfl ?_
      show ab_Z m_Mo_records _ _ _ 8 [_, _] [_, _] _
      refine ab_br ok_Mo_records rfl rfl ?_ ?_
      · intro h2
        show ab_Z m_Mo_records _ _ _ 21 [_, _] [] _
        exact absurd h2 (lp_in (N := 1560) (by decide) hk)
      · intro h2
        show ab_Z m_Mo_records _ _ _ 9 [_, _] [] _
        refine ab_go ok_Mo_records 8 rfl ?_
        show ab_Z m_Mo_records _ _ _ 17 [_, _] [_, _, _, _] _
        refine ab_ia ok_Mo_records rfl rfl (k := (k + 40)) (by first | rfl | (simp only [LL1, LL2, LL3, LL4, LL5, LL6, LL7, LL8, LL10, LL15, LL18, LL20, LL21, LL22, LL23, LL24, LL32, LL39, LL40, LL130, LL420, pk_mul, nI_add]; done) | (simp only [LL1, LL2, LL3, LL4, LL5, LL6, LL7, LL8, LL10, LL15, LL18, LL20, LL21, LL22, LL23, LL24, LL32, LL39, LL40, LL130, LL420, pk_mul, nI_add]; congr 1; omega)) (by omega) (Nat.le_of_ble_eq_true rfl) ?_
        show ab_Z m_Mo_records _ _ _ 18 [_, _] [_, _, _] _
        rw [show ab_ro s 119 (fun j => if j < k then s 119 (j + 40) else s 119 j) 119 (k + 40) = s 119 (k + 40) from by rw [ab_ro_c, if_neg (by omega)]]
        refine ab_is ok_Mo_records rfl rfl (k := k) (by first | rfl | (simp only [LL1, LL2, LL3, LL4, LL5, LL6, LL7, LL8, LL10, LL15, LL18, LL20, LL21, LL22, LL23, LL24, LL32, LL39, LL40, LL130, LL420, pk_mul, nI_add]; done) | (simp only [LL1, LL2, LL3, LL4, LL5, LL6, LL7, LL8, LL10, LL15, LL18, LL20, LL21, LL22, LL23, LL24, LL32, LL39, LL40, LL130, LL420, pk_mul, nI_add]; congr 1; omega)) (by omega) (Nat.le_of_ble_eq_true rfl) ?_
        show ab_Z m_Mo_records _ _ _ 19 [_, _] [] _
        rw [ro_up, show upd (fun j => if j < k then s 119 (j + 40) else s 119 j) k (s 119 (k + 40)) = (fun j => if j < k + 1 then s 119 (j + 40) else s 119 j) from by
          funext j
          unfold upd
          by_cases h3 : j = k
          · subst h3; rw [if_pos rfl, if_pos (by omega)]
          · rw [if_neg h3]
            dsimp only
            by_cases h4 : j < k
            · rw [if_pos h4, if_pos (by omega)]
            · rw [if_neg h4, if_neg (by omega)]]
        refine ab_go ok_Mo_records 2 rfl ?_
        show ab_Z m_Mo_records _ _ _ 6 [_, _] [] _
        rw [nI_succ] at ih
        exact ih
  · intro h1
    show ab_Z m_Mo_records _ _ _ 27 [_, _] [] _
    have hu40 : u < 40 := by
      rcases Nat.lt_or_ge u 40 with h | h
      · exact h
      · exact absurd (by rw [show u = 40 by omega]; rfl) h1
    refine tail s u _ (fun _ _ _ _ => rfl) hu hu40 (by unfold hisF; rw [if_pos hu40]) (by rw [if_pos hu40])
end

