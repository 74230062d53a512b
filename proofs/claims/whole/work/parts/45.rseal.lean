/-! the reference: rows copied, deeds sealed -/
theorem i_rng (x : Int32) : -2147483648 ≤ x.toInt ∧ x.toInt < 2147483648 := ⟨Int32.le_toInt x, Int32.toInt_lt x⟩
theorem i_bm {z : Int} (h1 : -2147483648 ≤ z) (h2 : z < 2147483648) : z.bmod (2 ^ 32) = z := Int.bmod_eq_of_le (by omega) (by omega)
theorem i_addI {x y : Int32} (h1 : -2147483648 ≤ x.toInt + y.toInt) (h2 : x.toInt + y.toInt < 2147483648) : (x + y).toInt = x.toInt + y.toInt := by
  rw [Int32.toInt_add]; exact i_bm h1 h2
theorem i_subI {x y : Int32} (h1 : -2147483648 ≤ x.toInt - y.toInt) (h2 : x.toInt - y.toInt < 2147483648) : (x - y).toInt = x.toInt - y.toInt := by
  rw [Int32.toInt_sub]; exact i_bm h1 h2
theorem held_r (v : Int32) {m : Int32} (hm : 0 < m) : 0 ≤ (heldF v m).toInt ∧ (heldF v m).toInt ≤ m.toInt := by
  have h0 : (0 : Int32).toInt = 0 := rfl
  have hm' := i_lt hm
  unfold heldF
  by_cases h1 : v < m
  · rw [if_pos h1]
    have h1' := i_lt h1
    by_cases h2 : 0 < v
    · rw [if_pos h2]; have := i_lt h2; omega
    · rw [if_neg h2]; omega
  · rw [if_neg h1, if_pos hm]; omega
theorem vR_cg {T : Nat → Nat → Int32} {nc nd : Nat} {r r' : Nat → Int32} (h5 : nc ≤ 5) (h6 : nd ≤ 6) (h : ∀ j, j < 40 → r' j = r j) : vR T nc nd r' = vR T nc nd r := by
  unfold vR
  congr 1
  funext j
  unfold rwF
  by_cases a : j < 3 * nc
  · rw [if_pos a, if_pos a]; exact h j (by omega)
  · rw [if_neg a, if_neg a]
    by_cases b : 15 ≤ j ∧ j < 15 + 3 * nd
    · rw [if_pos b, if_pos b]; exact h _ (by omega)
    · rw [if_neg b, if_neg b]
      by_cases c : 33 ≤ j ∧ j < 33 + nd
      · rw [if_pos c, if_pos c]; exact h _ (by omega)
      · rw [if_neg c, if_neg c]
        by_cases e : j = 39
        · rw [if_pos e, if_pos e]; exact h _ (by omega)
        · rw [if_neg e, if_neg e]
/-- 40 numbers of g in place of those of f -/
def f40 (f g : Nat → Int32) : Nat → Int32 := fillR f 0 40 g
theorem f40_lt {f g : Nat → Int32} {j : Nat} (h : j < 40) : f40 f g j = g j := by
  unfold f40
  have := fillR_i (r := f) (a := 0) (k := 40) (j := j) (g := g) h
  rwa [Nat.zero_add] at this
def w5 (c k : Nat) : Bool := w1 c k || c == 117 || c == 118
theorem Kr.m15 {a b : Nat → Nat → Int32} (h : Kr w1 a b) : Kr w5 a b := fun x k p => h x k (by unfold w5 at p; simp only [Bool.or_eq_false_iff] at p; exact p.1.1)
theorem Kr.m53 {a b : Nat → Nat → Int32} (h : Kr w5 a b) : Kr w3 a b := fun x k p => h x k (by unfold w3 w2 at p; unfold w5; simp only [Bool.or_eq_false_iff] at p ⊢; exact ⟨⟨p.1.1.1.1.1, p.1.1.2⟩, p.1.2⟩)
section
variable (d : Nat) (fm : Value) (X : Nat × (Nat → Int32)) (s T : Nat → Nat → Int32) (t : Nat → Nat → Int64)
variable {lv nc nd nt : Nat} {PT PG PB PF : List (List Ins)}
theorem t_Mo_keepsRow : ab_T g_Mo_keepsRow d (0, 0) [.ref 81] (HA fm X s t) (PV (HA fm X (ab_ro s 114 (f40 (s 114) (s 115))) t)) := by
  generalize hPo : PV (HA fm X (ab_ro s 114 (f40 (s 114) (s 115))) t) = Po
  refine ab_T_of (M := m_Mo_keepsRow) rfl rfl (Nat.le_of_ble_eq_true rfl) ?_
  show ab_Z m_Mo_keepsRow _ _ _ 0 [_, _] [] _
  refine ab_go ok_Mo_keepsRow 2 rfl ?_
  show ab_Z m_Mo_keepsRow _ _ _ 2 [_, _] [] _
  have := lp_dn 40 (fun k => ab_Z m_Mo_keepsRow d (0, 0) Po 2 [some (.ref 81), some (.int (nI k))] [] (HA fm X (ab_ro s 114 (fillR (s 114) 0 k (s 115))) t)) ?_ ?_
  · rw [fillR_0, ro_id] at this
    exact this
  · refine ab_go ok_Mo_keepsRow 2 rfl ?_
    show ab_Z m_Mo_keepsRow _ _ _ 4 [_, _] [_, _] _
    refine ab_go ok_Mo_keepsRow 1 rfl ?_
    show ab_Z m_Mo_keepsRow _ _ _ 15 [_, _] [] _
    have fin : Po none (HA fm X (ab_ro s 114 (fillR (s 114) 0 40 (s 115))) t) := by
      rw [← hPo]
      exact ⟨rfl, rfl⟩
    exact ab_rV ok_Mo_keepsRow rfl (fin)
  · intro k hk ih
    refine ab_go ok_Mo_keepsRow 2 rfl ?_
    show ab_Z m_Mo_keepsRow _ _ _ 4 [_, _] [_, _] _
    refine ab_br ok_Mo_keepsRow rfl rfl ?_ ?_
    · intro h1
      show ab_Z m_Mo_keepsRow _ _ _ 15 [_, _] [] _
      exact absurd h1 (lp_in (N := 40) (by decide) hk)
    · intro h1
      show ab_Z m_Mo_keepsRow _ _ _ 5 [_, _] [] _
      refine ab_go ok_Mo_keepsRow 6 rfl ?_
      show ab_Z m_Mo_keepsRow _ _ _ 11 [_, _] [_, _, _, _] _
      refine ab_ia ok_Mo_keepsRow rfl rfl (k := k) (by first | rfl | (simp only [LL1, LL2, LL3, LL4, LL5, LL6, LL7, LL8, LL10, LL15, LL18, LL20, LL21, LL22, LL23, LL24, LL32, LL39, LL40, LL130, LL420, pk_mul, nI_add]; done) | (simp only [LL1, LL2, LL3, LL4, LL5, LL6, LL7, LL8, LL10, LL15, LL18, LL20, LL21, LL22, LL23, LL24, LL32, LL39, LL40, LL130, LL420, pk_mul, nI_add]; congr 1; omega)) (by omega) (Nat.le_of_ble_eq_true rfl) ?_
      show ab_Z m_Mo_keepsRow _ _ _ 12 [_, _] [_, _, _] _
      rw [show ab_ro s 114 (fillR (s 114) 0 k (s 115)) 115 k = s 115 k from rfl]
      refine ab_is ok_Mo_keepsRow rfl rfl (k := k) (by first | rfl | (simp only [LL1, LL2, LL3, LL4, LL5, LL6, LL7, LL8, LL10, LL15, LL18, LL20, LL21, LL22, LL23, LL24, LL32, LL39, LL40, LL130, LL420, pk_mul, nI_add]; done) | (simp only [LL1, LL2, LL3, LL4, LL5, LL6, LL7, LL8, LL10, LL15, LL18, LL20, LL21, LL22, LL23, LL24, LL32, LL39, LL40, LL130, LL420, pk_mul, nI_add]; congr 1; omega)) (by omega) (Nat.le_of_ble_eq_true rfl) ?_
      show ab_Z m_Mo_keepsRow _ _ _ 13 [_, _] [] _
      rw [ro_up, fillR_z]
      refine ab_go ok_Mo_keepsRow 2 rfl ?_
      show ab_Z m_Mo_keepsRow _ _ _ 2 [_, _] [] _
      rw [nI_succ] at ih
      exact ih
/-- a copy of what is now -/
def cpS (s T : Nat → Nat → Int32) : Nat → Nat → Int32 := ab_up (ab_ro s 115 (f40 (s 115) (s 114))) 81 52 (T 14 15)
theorem cpS_k (s T : Nat → Nat → Int32) : Kr w3 s (cpS s T) := Kr.up rfl (Kr.ro (fun _ => rfl) (Kr.rf w3 s))
theorem cpS_v (s T : Nat → Nat → Int32) (h5 : nc ≤ 5) (h6 : nd ≤ 6) : vR T nc nd (cpS s T 115) = vR T nc nd (s 114) := vR_cg h5 h6 (fun j hj => f40_lt hj)
theorem cpS_l (s T : Nat → Nat → Int32) : cpS s T 81 52 = T 14 15 := ab_up_s ..
theorem t_Mo_copies (hR : RT s lv T nc nd nt) : ab_T g_Mo_copies d (0, 0) [.ref 81] (HA fm X s t) (PV (HA fm X (cpS s T) t)) := by
  have h2 := hR.2.1
  generalize hPo : PV (HA fm X (cpS s T) t) = Po
  refine ab_T_of (M := m_Mo_copies) rfl rfl (Nat.le_of_ble_eq_true rfl) ?_
  show ab_Z m_Mo_copies _ _ _ 0 [_, _] [] _
  refine ab_go ok_Mo_copies 2 rfl ?_
  show ab_Z m_Mo_copies _ _ _ 2 [_, _] [] _
  have := lp_dn 40 (fun k => ab_Z m_Mo_copies d (0, 0) Po 2 [some (.ref 81), some (.int (nI k))] [] (HA fm X (ab_ro s 115 (fillR (s 115) 0 k (s 114))) t)) ?_ ?_
  · rw [fillR_0, ro_id] at this
    exact this
  · refine ab_go ok_Mo_copies 2 rfl ?_
    show ab_Z m_Mo_copies _ _ _ 4 [_, _] [_, _] _
    refine ab_go ok_Mo_copies 1 rfl ?_
    show ab_Z m_Mo_copies _ _ _ 15 [_, _] [] _
    refine ab_go ok_Mo_copies 5 rfl ?_
    show ab_Z m_Mo_copies _ _ _ 20 [_, _] [_, _, _] _
    rw [show ab_ro s 115 (fillR (s 115) 0 40 (s 114)) 81 18 = nI lv from hR.1]
    refine ab_ia ok_Mo_copies rfl rfl (k := lv) (by first | rfl | (simp only [LL1, LL2, LL3, LL4, LL5, LL6, LL7, LL8, LL10, LL15, LL18, LL20, LL21, LL22, LL23, LL24, LL32, LL39, LL40, LL130, LL420, pk_mul, nI_add]; done) | (simp only [LL1, LL2, LL3, LL4, LL5, LL6, LL7, LL8, LL10, LL15, LL18, LL20, LL21, LL22, LL23, LL24, LL32, LL39, LL40, LL130, LL420, pk_mul, nI_add]; congr 1; omega)) (by omega) (Nat.le_of_ble_eq_true rfl) ?_
    show ab_Z m_Mo_copies _ _ _ 21 [_, _] [_, _] _
    rw [show ab_ro s 115 (fillR (s 115) 0 40 (s 114)) 101 lv = T 14 15 from hR.2.2.2.2.2.2.2.2.2.2.2]
    refine ab_go ok_Mo_copies 1 rfl ?_
    show ab_Z m_Mo_copies _ _ _ 22 [_, _] [] _
    have fin : Po none (HA fm X (ab_up (ab_ro s 115 (fillR (s 115) 0 40 (s 114))) 81 52 (T 14 15)) t) := by
      rw [← hPo]
      exact ⟨rfl, rfl⟩
    exact ab_rV ok_Mo_copies rfl (fin)
  · intro k hk ih
    refine ab_go ok_Mo_copies 2 rfl ?_
    show ab_Z m_Mo_copies _ _ _ 4 [_, _] [_, _] _
    refine ab_br ok_Mo_copies rfl rfl ?_ ?_
    · intro h1
      show ab_Z m_Mo_copies _ _ _ 15 [_, _] [] _
      exact absurd h1 (lp_in (N := 40) (by decide) hk)
    · intro h1
      show ab_Z m_Mo_copies _ _ _ 5 [_, _] [] _
      refine ab_go ok_Mo_copies 6 rfl ?_
      show ab_Z m_Mo_copies _ _ _ 11 [_, _] [_, _, _, _] _
      refine ab_ia ok_Mo_copies rfl rfl (k := k) (by first | rfl | (simp only [LL1, LL2, LL3, LL4, LL5, LL6, LL7, LL8, LL10, LL15, LL18, LL20, LL21, LL22, LL23, LL24, LL32, LL39, LL40, LL130, LL420, pk_mul, nI_add]; done) | (simp only [LL1, LL2, LL3, LL4, LL5, LL6, LL7, LL8, LL10, LL15, LL18, LL20, LL21, LL22, LL23, LL24, LL32, LL39, LL40, LL130, LL420, pk_mul, nI_add]; congr 1; omega)) (by omega) (Nat.le_of_ble_eq_true rfl) ?_
      show ab_Z m_Mo_copies _ _ _ 12 [_, _] [_, _, _] _
      rw [show ab_ro s 115 (fillR (s 115) 0 k (s 114)) 114 k = s 114 k from rfl]
      refine ab_is ok_Mo_copies rfl rfl (k := k) (by first | rfl | (simp only [LL1, LL2, LL3, LL4, LL5, LL6, LL7, LL8, LL10, LL15, LL18, LL20, LL21, LL22, LL23, LL24, LL32, LL39, LL40, LL130, LL420, pk_mul, nI_add]; done) | (simp only [LL1, LL2, LL3, LL4, LL5, LL6, LL7, LL8, LL10, LL15, LL18, LL20, LL21, LL22, LL23, LL24, LL32, LL39, LL40, LL130, LL420, pk_mul, nI_add]; congr 1; omega)) (by omega) (Nat.le_of_ble_eq_true rfl) ?_
      show ab_Z m_Mo_copies _ _ _ 13 [_, _] [] _
      rw [ro_up, fillR_z]
      refine ab_go ok_Mo_copies 2 rfl ?_
      show ab_Z m_Mo_copies _ _ _ 2 [_, _] [] _
      rw [nI_succ] at ih
      exact ih
theorem t_Mo_canSeal (hC : RC s lv T nc nd nt PT PG PB PF) {c e : Nat} (hc : c < nc) (he : e < nd) : ab_T g_Mo_canSeal (d + 3) (0, 0) [.ref 81, .int (nI c), .int (nI e)] (HA fm X s t) (fun v h => v = some (.int (bB (canB (vR T nc nd (s 115)) PT nd c e))) ∧ ∃ s', h = HA fm X s' t ∧ Kr w2 s s' ∧ (canB (vR T nc nd (s 115)) PT nd c e = true → ∀ f, f < 3 → s' 116 f = TV (vR T nc nd (s 115)) PT nd c e f)) := by
  have hR := hC.1
  have h5 := hR.2.2.1.2
  have h6 := hR.2.2.2.1.2
  have hV0 : enB (vR T nc nd (s 115)) PT nd c e 0 = decide (s 115 (15 + e) = -2) := by rw [enB, vR_s h5 h6 he]
  have hVl : ∀ f, f < 3 → vR T nc nd (s 115) 11 (3 * c + f) = s 115 (3 * c + f) := fun f hf => vR_l hc hf
  generalize hVV : vR T nc nd (s 115) = V at hV0 hVl ⊢
  have hno : ∀ k, enB V PT nd c e k = false → ∀ j, enB V PT nd c e (k + j) = false := by
    intro k hk j
    induction j with
    | zero => exact hk
    | succ j ih => rw [← Nat.add_assoc, enB, ih, Bool.false_and]
  generalize hPo : (fun v h => v = some (.int (bB (canB V PT nd c e))) ∧ ∃ s', h = HA fm X s' t ∧ Kr w2 s s' ∧ (canB V PT nd c e = true → ∀ f, f < 3 → s' 116 f = TV V PT nd c e f) : Option Value → ab_H → Prop) = Po
  have fno : ∀ k, k ≤ 3 → enB V PT nd c e k = false → ∀ s1, Kr w2 s s1 → Po (some (.int 0)) (HA fm X s1 t) := by
    intro k hk3 hk s1 h1
    have hcn : canB V PT nd c e = false := by
      unfold canB
      have := hno k hk (3 - k)
      rw [show k + (3 - k) = 3 by omega] at this
      rw [this, Bool.false_and]
    rw [← hPo, hcn]
    exact ⟨rfl, s1, rfl, h1, fun z => by cases z⟩
  have hTV : ∀ s1, Kr w2 s s1 → vR T nc nd (s1 115) = V := fun s1 h => by rw [h.row (c := 115) (fun _ => rfl), hVV]
  refine ab_T_of (M := m_Mo_canSeal) rfl rfl (Nat.le_of_ble_eq_true rfl) ?_
  show ab_Z m_Mo_canSeal _ _ _ 0 [_, _, _, _, _] [] _
  refine ab_go ok_Mo_canSeal 5 rfl ?_
  show ab_Z m_Mo_canSeal _ _ _ 5 [_, _, _, _, _] [_, _] _
  refine ab_ia ok_Mo_canSeal rfl rfl (k := (15 + e)) (by first | rfl | (simp only [LL1, LL2, LL3, LL4, LL5, LL6, LL7, LL8, LL10, LL15, LL18, LL20, LL21, LL22, LL23, LL24, LL32, LL39, LL40, LL130, LL420, pk_mul, nI_add]; done) | (simp only [LL1, LL2, LL3, LL4, LL5, LL6, LL7, LL8, LL10, LL15, LL18, LL20, LL21, LL22, LL23, LL24, LL32, LL39, LL40, LL130, LL420, pk_mul, nI_add]; congr 1; omega)) (by omega) (Nat.le_of_ble_eq_true rfl) ?_
  show ab_Z m_Mo_canSeal _ _ _ 6 [_, _, _, _, _] [_] _
  refine ab_go ok_Mo_canSeal 1 rfl ?_
  show ab_Z m_Mo_canSeal _ _ _ 7 [_, _, _, _, _] [_, _] _
  refine ab_br ok_Mo_canSeal rfl rfl ?_ ?_
  · intro h1
    show ab_Z m_Mo_canSeal _ _ _ 10 [_, _, _, _, _] [] _
    have he0 : enB V PT nd c e 0 = true := by rw [hV0, decide_eq_true h1]
    refine ab_go ok_Mo_canSeal 4 rfl ?_
    show ab_Z m_Mo_canSeal _ _ _ 14 [_, _, _, _, _] [] _
    refine lp_dn 3 (fun k => ∀ s1, Kr w2 s s1 → enB V PT nd c e k = true → (∀ f, f < k → s1 116 f = TV V PT nd c e f) → ab_Z m_Mo_canSeal (d + 3) (0, 0) Po 14 [some (.ref 81), some (.int (nI c)), some (.int (nI e)), some (.int (leftV V PT nd c e k)), some (.int (nI k))] [] (HA fm X s1 t)) ?_ ?_ s (Kr.rf w2 s) he0 (fun f hf => absurd hf (by omega))
    · intro s1 hk1 hen hw
      refine ab_go ok_Mo_canSeal 2 rfl ?_
      show ab_Z m_Mo_canSeal _ _ _ 16 [_, _, _, _, _] [_, _] _
      refine ab_go ok_Mo_canSeal 1 rfl ?_
      show ab_Z m_Mo_canSeal _ _ _ 59 [_, _, _, _, _] [] _
      refine ab_go ok_Mo_canSeal 1 rfl ?_
      show ab_Z m_Mo_canSeal _ _ _ 60 [_, _, _, _, _] [_] _
      refine ab_br ok_Mo_canSeal rfl rfl ?_ ?_
      · intro h2
        show ab_Z m_Mo_canSeal _ _ _ 63 [_, _, _, _, _] [] _
        refine ab_go ok_Mo_canSeal 1 rfl ?_
        show ab_Z m_Mo_canSeal _ _ _ 64 [_, _, _, _, _] [_] _
        have fin : Po (some (.int 0)) (HA fm X s1 t) := by
          have hcn : canB V PT nd c e = false := by
            unfold canB
            rw [decide_eq_false (fun z => by have := i_lt z; have := i_le h2; omega), Bool.and_false]
          rw [← hPo, hcn]
          exact ⟨rfl, s1, rfl, hk1, fun z => by cases z⟩
        exact ab_rZ ok_Mo_canSeal rfl (by decide) (fin)
      · intro h2
        show ab_Z m_Mo_canSeal _ _ _ 61 [_, _, _, _, _] [] _
        refine ab_go ok_Mo_canSeal 2 rfl ?_
        show ab_Z m_Mo_canSeal _ _ _ 64 [_, _, _, _, _] [_] _
        have fin : Po (some (.int 1)) (HA fm X s1 t) := by
          have hcn : canB V PT nd c e = true := by
            unfold canB
            rw [hen, decide_eq_true (Int32.lt_iff_toInt_lt.mpr (i_nle h2))]
            rfl
          rw [← hPo, hcn]
          exact ⟨rfl, s1, rfl, hk1, fun _ => hw⟩
        exact ab_rZ ok_Mo_canSeal rfl (by decide) (fin)
    · intro k hk3 ih s1 hk1 hen hw
      refine ab_go ok_Mo_canSeal 2 rfl ?_
      show ab_Z m_Mo_canSeal _ _ _ 16 [_, _, _, _, _] [_, _] _
      refine ab_br ok_Mo_canSeal rfl rfl ?_ ?_
      · intro h2
        show ab_Z m_Mo_canSeal _ _ _ 59 [_, _, _, _, _] [] _
        exact absurd h2 (lp_in (N := 3) (by decide) hk3)
      · intro h2
        show ab_Z m_Mo_canSeal _ _ _ 17 [_, _, _, _, _] [] _
        refine ab_go ok_Mo_canSeal 7 rfl ?_
        show ab_Z m_Mo_canSeal _ _ _ 24 [_, _, _, _, _] [_, _, _, _, _, _] _
        refine ab_cl ok_Mo_canSeal rfl [_, _, _, _] [_, _] rfl ⟨_, _, rfl, rfl, Or.inl ⟨_, _, rfl, rfl⟩⟩ (Nat.le_of_ble_eq_true rfl) (t_Mo_takesOf d fm X s1 T t (hC.k hk1.m24) hc he hk3) ?_
        rintro _ _ ⟨rfl, s2, rfl, hk2⟩
        show ab_Z m_Mo_canSeal _ _ _ 25 [_, _, _, _, _] [_, _, _] _
        rw [hTV s1 hk1]
        have hk3' : Kr w2 s (ab_up s2 116 k (TV V PT nd c e k)) := Kr.up rfl (hk1.tr hk2.m12)
        have hrd : ab_up s2 116 k (TV V PT nd c e k) 115 (3 * c + k) = V 11 (3 * c + k) := by rw [hk3' 115 _ rfl, hVl k hk3]
        refine ab_is ok_Mo_canSeal rfl rfl (k := k) (by first | rfl | (simp only [LL1, LL2, LL3, LL4, LL5, LL6, LL7, LL8, LL10, LL15, LL18, LL20, LL21, LL22, LL23, LL24, LL32, LL39, LL40, LL130, LL420, pk_mul, nI_add]; done) | (simp only [LL1, LL2, LL3, LL4, LL5, LL6, LL7, LL8, LL10, LL15, LL18, LL20, LL21, LL22, LL23, LL24, LL32, LL39, LL40, LL130, LL420, pk_mul, nI_add]; congr 1; omega)) (by omega) (Nat.le_of_ble_eq_true rfl) ?_
        show ab_Z m_Mo_canSeal _ _ _ 26 [_, _, _, _, _] [] _
        refine ab_go ok_Mo_canSeal 7 rfl ?_
        show ab_Z m_Mo_canSeal _ _ _ 33 [_, _, _, _, _] [_, _] _
        refine ab_ia ok_Mo_canSeal rfl rfl (k := (3 * c + k)) (by first | rfl | (simp only [LL1, LL2, LL3, LL4, LL5, LL6, LL7, LL8, LL10, LL15, LL18, LL20, LL21, LL22, LL23, LL24, LL32, LL39, LL40, LL130, LL420, pk_mul, nI_add]; done) | (simp only [LL1, LL2, LL3, LL4, LL5, LL6, LL7, LL8, LL10, LL15, LL18, LL20, LL21, LL22, LL23, LL24, LL32, LL39, LL40, LL130, LL420, pk_mul, nI_add]; congr 1; omega)) (by omega) (Nat.le_of_ble_eq_true rfl) ?_
        show ab_Z m_Mo_canSeal _ _ _ 34 [_, _, _, _, _] [_] _
        rw [hrd]
        refine ab_go ok_Mo_canSeal 3 rfl ?_
        show ab_Z m_Mo_canSeal _ _ _ 37 [_, _, _, _, _] [_, _, _] _
        refine ab_ia ok_Mo_canSeal rfl rfl (k := k) (by first | rfl | (simp only [LL1, LL2, LL3, LL4, LL5, LL6, LL7, LL8, LL10, LL15, LL18, LL20, LL21, LL22, LL23, LL24, LL32, LL39, LL40, LL130, LL420, pk_mul, nI_add]; done) | (simp only [LL1, LL2, LL3, LL4, LL5, LL6, LL7, LL8, LL10, LL15, LL18, LL20, LL21, LL22, LL23, LL24, LL32, LL39, LL40, LL130, LL420, pk_mul, nI_add]; congr 1; omega)) (by omega) (Nat.le_of_ble_eq_true rfl) ?_
        show ab_Z m_Mo_canSeal _ _ _ 38 [_, _, _, _, _] [_, _] _
        rw [ab_up_s]
        refine ab_br ok_Mo_canSeal rfl rfl ?_ ?_
        · intro h3
          show ab_Z m_Mo_canSeal _ _ _ 41 [_, _, _, _, _] [] _
          refine ab_go ok_Mo_canSeal 8 rfl ?_
          show ab_Z m_Mo_canSeal _ _ _ 49 [_, _, _, _, _] [_, _, _] _
          refine ab_ia ok_Mo_canSeal rfl rfl (k := (3 * c + k)) (by first | rfl | (simp only [LL1, LL2, LL3, LL4, LL5, LL6, LL7, LL8, LL10, LL15, LL18, LL20, LL21, LL22, LL23, LL24, LL32, LL39, LL40, LL130, LL420, pk_mul, nI_add]; done) | (simp only [LL1, LL2, LL3, LL4, LL5, LL6, LL7, LL8, LL10, LL15, LL18, LL20, LL21, LL22, LL23, LL24, LL32, LL39, LL40, LL130, LL420, pk_mul, nI_add]; congr 1; omega)) (by omega) (Nat.le_of_ble_eq_true rfl) ?_
          show ab_Z m_Mo_canSeal _ _ _ 50 [_, _, _, _, _] [_, _] _
          rw [hrd]
          refine ab_go ok_Mo_canSeal 3 rfl ?_
          show ab_Z m_Mo_canSeal _ _ _ 53 [_, _, _, _, _] [_, _, _, _] _
          refine ab_ia ok_Mo_canSeal rfl rfl (k := k) (by first | rfl | (simp only [LL1, LL2, LL3, LL4, LL5, LL6, LL7, LL8, LL10, LL15, LL18, LL20, LL21, LL22, LL23, LL24, LL32, LL39, LL40, LL130, LL420, pk_mul, nI_add]; done) | (simp only [LL1, LL2, LL3, LL4, LL5, LL6, LL7, LL8, LL10, LL15, LL18, LL20, LL21, LL22, LL23, LL24, LL32, LL39, LL40, LL130, LL420, pk_mul, nI_add]; congr 1; omega)) (by omega) (Nat.le_of_ble_eq_true rfl) ?_
          show ab_Z m_Mo_canSeal _ _ _ 54 [_, _, _, _, _] [_, _, _] _
          rw [ab_up_s]
          refine ab_go ok_Mo_canSeal 5 rfl ?_
          show ab_Z m_Mo_canSeal _ _ _ 14 [_, _, _, _, _] [] _
          have ih2 := ih _ hk3' (by rw [enB, hen, decide_eq_false (fun z => by have := i_lt z; have := i_le h3; omega)]; rfl) (fun f hf => by
            by_cases hfk : f = k
            · subst hfk; rw [ab_up_s]
            · rw [ab_up_n hfk]
              exact (hk2 116 f rfl).trans (hw f (by omega)))
          rw [nI_succ, leftV] at ih2
          exact ih2
        · intro h3
          show ab_Z m_Mo_canSeal _ _ _ 39 [_, _, _, _, _] [] _
          refine ab_go ok_Mo_canSeal 1 rfl ?_
          show ab_Z m_Mo_canSeal _ _ _ 40 [_, _, _, _, _] [_] _
          exact ab_rZ ok_Mo_canSeal rfl (by decide) (fno (k + 1) (by omega) (by rw [enB, decide_eq_true (Int32.lt_iff_toInt_lt.mpr (i_nle h3)), Bool.not_true, Bool.and_false]) _ hk3')
  · intro h1
    show ab_Z m_Mo_canSeal _ _ _ 8 [_, _, _, _, _] [] _
    refine ab_go ok_Mo_canSeal 1 rfl ?_
    show ab_Z m_Mo_canSeal _ _ _ 9 [_, _, _, _, _] [_] _
    exact ab_rZ ok_Mo_canSeal rfl (by decide) (fno 0 (by decide) (by rw [hV0, decide_eq_false h1]) s (Kr.rf w2 s))
def slR (r q : Nat → Int32) (c e : Nat) : Nat → Int32 := upd (fillR (fillR r (3 * c) 3 (fun f => r (3 * c + f) - q f)) (21 + 3 * e) 3 q) (15 + e) (nI c)
theorem t_Mo_seals {c e : Nat} (hc : c < 5) (he : e < 6) : ab_T g_Mo_seals d (0, 0) [.ref 81, .int (nI c), .int (nI e)] (HA fm X s t) (PV (HA fm X (ab_ro s 115 (slR (s 115) (s 116) c e)) t)) := by
  generalize hPo : PV (HA fm X (ab_ro s 115 (slR (s 115) (s 116) c e)) t) = Po
  refine ab_T_of (M := m_Mo_seals) rfl rfl (Nat.le_of_ble_eq_true rfl) ?_
  show ab_Z m_Mo_seals _ _ _ 0 [_, _, _, _] [] _
  refine ab_go ok_Mo_seals 2 rfl ?_
  show ab_Z m_Mo_seals _ _ _ 2 [_, _, _, _] [] _
  have := lp_dn 3 (fun k => ab_Z m_Mo_seals d (0, 0) Po 2 [some (.ref 81), some (.int (nI c)), some (.int (nI e)), some (.int (nI k))] [] (HA fm X (ab_ro s 115 (fillR (fillR (s 115) (3 * c) k (fun f => s 115 (3 * c + f) - s 116 f)) (21 + 3 * e) k (s 116))) t)) ?_ ?_
  · rw [fillR_0, fillR_0, ro_id] at this
    exact this
  · refine ab_go ok_Mo_seals 2 rfl ?_
    show ab_Z m_Mo_seals _ _ _ 4 [_, _, _, _] [_, _] _
    refine ab_go ok_Mo_seals 1 rfl ?_
    show ab_Z m_Mo_seals _ _ _ 36 [_, _, _, _] [] _
    refine ab_go ok_Mo_seals 6 rfl ?_
    show ab_Z m_Mo_seals _ _ _ 42 [_, _, _, _] [_, _, _] _
    refine ab_is ok_Mo_seals rfl rfl (k := (15 + e)) (by first | rfl | (simp only [LL1, LL2, LL3, LL4, LL5, LL6, LL7, LL8, LL10, LL15, LL18, LL20, LL21, LL22, LL23, LL24, LL32, LL39, LL40, LL130, LL420, pk_mul, nI_add]; done) | (simp only [LL1, LL2, LL3, LL4, LL5, LL6, LL7, LL8, LL10, LL15, LL18, LL20, LL21, LL22, LL23, LL24, LL32, LL39, LL40, LL130, LL420, pk_mul, nI_add]; congr 1; omega)) (by omega) (Nat.le_of_ble_eq_true rfl) ?_
    show ab_Z m_Mo_seals _ _ _ 43 [_, _, _, _] [] _
    rw [ro_up]
    have fin : Po none (HA fm X (ab_ro s 115 (upd (fillR (fillR (s 115) (3 * c) 3 (fun f => s 115 (3 * c + f) - s 116 f)) (21 + 3 * e) 3 (s 116)) (15 + e) (nI c))) t) := by
      rw [← hPo]
      exact ⟨rfl, rfl⟩
    exact ab_rV ok_Mo_seals rfl (fin)
  · intro k hk ih
    refine ab_go ok_Mo_seals 2 rfl ?_
    show ab_Z m_Mo_seals _ _ _ 4 [_, _, _, _] [_, _] _
    refine ab_br ok_Mo_seals rfl rfl ?_ ?_
    · intro h1
      show ab_Z m_Mo_seals _ _ _ 36 [_, _, _, _] [] _
      exact absurd h1 (lp_in (N := 3) (by decide) hk)
    · intro h1
      show ab_Z m_Mo_seals _ _ _ 5 [_, _, _, _] [] _
      refine ab_go ok_Mo_seals 8 rfl ?_
      show ab_Z m_Mo_seals _ _ _ 13 [_, _, _, _] [_, _, _, _] _
      refine ab_ia ok_Mo_seals rfl rfl (k := (3 * c + k)) (by first | rfl | (simp only [LL1, LL2, LL3, LL4, LL5, LL6, LL7, LL8, LL10, LL15, LL18, LL20, LL21, LL22, LL23, LL24, LL32, LL39, LL40, LL130, LL420, pk_mul, nI_add]; done) | (simp only [LL1, LL2, LL3, LL4, LL5, LL6, LL7, LL8, LL10, LL15, LL18, LL20, LL21, LL22, LL23, LL24, LL32, LL39, LL40, LL130, LL420, pk_mul, nI_add]; congr 1; omega)) (by omega) (Nat.le_of_ble_eq_true rfl) ?_
      show ab_Z m_Mo_seals _ _ _ 14 [_, _, _, _] [_, _, _] _
      rw [ab_ro_c, fillR_o (by omega), fillR_o (by omega)]
      refine ab_go ok_Mo_seals 3 rfl ?_
      show ab_Z m_Mo_seals _ _ _ 17 [_, _, _, _] [_, _, _, _, _] _
      refine ab_ia ok_Mo_seals rfl rfl (k := k) (by first | rfl | (simp only [LL1, LL2, LL3, LL4, LL5, LL6, LL7, LL8, LL10, LL15, LL18, LL20, LL21, LL22, LL23, LL24, LL32, LL39, LL40, LL130, LL420, pk_mul, nI_add]; done) | (simp only [LL1, LL2, LL3, LL4, LL5, LL6, LL7, LL8, LL10, LL15, LL18, LL20, LL21, LL22, LL23, LL24, LL32, LL39, LL40, LL130, LL420, pk_mul, nI_add]; congr 1; omega)) (by omega) (Nat.le_of_ble_eq_true rfl) ?_
      show ab_Z m_Mo_seals _ _ _ 18 [_, _, _, _] [_, _, _, _] _
      refine ab_go ok_Mo_seals 1 rfl ?_
      show ab_Z m_Mo_seals _ _ _ 19 [_, _, _, _] [_, _, _] _
      refine ab_is ok_Mo_seals rfl rfl (k := (3 * c + k)) (by first | rfl | (simp only [LL1, LL2, LL3, LL4, LL5, LL6, LL7, LL8, LL10, LL15, LL18, LL20, LL21, LL22, LL23, LL24, LL32, LL39, LL40, LL130, LL420, pk_mul, nI_add]; done) | (simp only [LL1, LL2, LL3, LL4, LL5, LL6, LL7, LL8, LL10, LL15, LL18, LL20, LL21, LL22, LL23, LL24, LL32, LL39, LL40, LL130, LL420, pk_mul, nI_add]; congr 1; omega)) (by omega) (Nat.le_of_ble_eq_true rfl) ?_
      show ab_Z m_Mo_seals _ _ _ 20 [_, _, _, _] [] _
      rw [ro_up]
      refine ab_go ok_Mo_seals 12 rfl ?_
      show ab_Z m_Mo_seals _ _ _ 32 [_, _, _, _] [_, _, _, _] _
      refine ab_ia ok_Mo_seals rfl rfl (k := k) (by first | rfl | (simp only [LL1, LL2, LL3, LL4, LL5, LL6, LL7, LL8, LL10, LL15, LL18, LL20, LL21, LL22, LL23, LL24, LL32, LL39, LL40, LL130, LL420, pk_mul, nI_add]; done) | (simp only [LL1, LL2, LL3, LL4, LL5, LL6, LL7, LL8, LL10, LL15, LL18, LL20, LL21, LL22, LL23, LL24, LL32, LL39, LL40, LL130, LL420, pk_mul, nI_add]; congr 1; omega)) (by omega) (Nat.le_of_ble_eq_true rfl) ?_
      show ab_Z m_Mo_seals _ _ _ 33 [_, _, _, _] [_, _, _] _
      refine ab_is ok_Mo_seals rfl rfl (k := (21 + 3 * e + k)) (by first | rfl | (simp only [LL1, LL2, LL3, LL4, LL5, LL6, LL7, LL8, LL10, LL15, LL18, LL20, LL21, LL22, LL23, LL24, LL32, LL39, LL40, LL130, LL420, pk_mul, nI_add]; done) | (simp only [LL1, LL2, LL3, LL4, LL5, LL6, LL7, LL8, LL10, LL15, LL18, LL20, LL21, LL22, LL23, LL24, LL32, LL39, LL40, LL130, LL420, pk_mul, nI_add]; congr 1; omega)) (by omega) (Nat.le_of_ble_eq_true rfl) ?_
      show ab_Z m_Mo_seals _ _ _ 34 [_, _, _, _] [] _
      rw [ro_up]
      refine ab_go ok_Mo_seals 2 rfl ?_
      show ab_Z m_Mo_seals _ _ _ 2 [_, _, _, _] [] _
      rw [show (ab_ro s 115 (fillR (fillR (s 115) (3 * c) k (fun f => s 115 (3 * c + f) - s 116 f)) (21 + 3 * e) k (s 116))) 116 k = s 116 k from rfl]
      rw [show (ab_ro s 115 (upd (fillR (fillR (s 115) (3 * c) k (fun f => s 115 (3 * c + f) - s 116 f)) (21 + 3 * e) k (s 116)) (3 * c + k) (s 115 (3 * c + k) - s 116 k))) 116 k = s 116 k from rfl]
      rw [fillR_u (by omega), fillR_s (s 115) (3 * c) k (fun f => s 115 (3 * c + f) - s 116 f), fillR_s _ (21 + 3 * e) k (s 116)]
      rw [nI_succ] at ih
      exact ih
theorem rwF_fl {b r g : Nat → Int32} {nc nd a k : Nat} (h5 : nc ≤ 5) (h : a + k ≤ 3 * nc) : rwF b nc nd (fillR r a k g) = fillR (rwF b nc nd r) a k g := by
  funext j
  by_cases h1 : a ≤ j ∧ j < a + k
  · rw [rwF, if_pos (by omega), fillR, if_pos h1, fillR, if_pos h1]
  · rw [fillR, if_neg h1]
    unfold rwF
    rw [show fillR r a k g j = r j from if_neg h1]
    by_cases h2 : j < 3 * nc
    · rw [if_pos h2, if_pos h2]
    · rw [if_neg h2, if_neg h2]
      by_cases h3 : 15 ≤ j ∧ j < 15 + 3 * nd
      · rw [if_pos h3, if_pos h3, fillR_o (by omega)]
      · rw [if_neg h3, if_neg h3]
        by_cases h4 : 33 ≤ j ∧ j < 33 + nd
        · rw [if_pos h4, if_pos h4, fillR_o (by omega)]
        · rw [if_neg h4, if_neg h4, fillR_o (by omega)]
theorem rwF_fp {b r g : Nat → Int32} {nc nd a k : Nat} (h5 : nc ≤ 5) (h6 : nd ≤ 6) (h : a + k ≤ 3 * nd) : rwF b nc nd (fillR r (21 + a) k g) = fillR (rwF b nc nd r) (15 + a) k g := by
  funext j
  by_cases h1 : 15 + a ≤ j ∧ j < 15 + a + k
  · rw [rwF, if_neg (by omega), if_pos (by omega), fillR, if_pos (by omega), fillR, if_pos h1]
    congr 1; omega
  · rw [fillR, if_neg h1]
    unfold rwF
    by_cases h2 : j < 3 * nc
    · rw [if_pos h2, if_pos h2, fillR_o (by omega)]
    · rw [if_neg h2, if_neg h2]
      by_cases h3 : 15 ≤ j ∧ j < 15 + 3 * nd
      · rw [if_pos h3, if_pos h3, fillR_o (by omega)]
      · rw [if_neg h3, if_neg h3]
        by_cases h4 : 33 ≤ j ∧ j < 33 + nd
        · rw [if_pos h4, if_pos h4, fillR_o (by omega)]
        · rw [if_neg h4, if_neg h4, fillR_o (by omega)]
theorem rwF_us {b r : Nat → Int32} {nc nd e : Nat} (h5 : nc ≤ 5) (h6 : nd ≤ 6) (he : e < nd) (v : Int32) : rwF b nc nd (upd r (15 + e) v) = upd (rwF b nc nd r) (33 + e) v := by
  funext j
  unfold rwF upd
  by_cases h1 : j = 33 + e
  · rw [if_pos h1, if_neg (by omega), if_neg (by omega), if_pos (by omega), if_pos (by omega)]
  · rw [if_neg h1]
    dsimp only
    by_cases h2 : j < 3 * nc
    · rw [if_pos h2, if_pos h2, if_neg (by omega)]
    · rw [if_neg h2, if_neg h2]
      by_cases h3 : 15 ≤ j ∧ j < 15 + 3 * nd
      · rw [if_pos h3, if_pos h3, if_neg (by omega)]
      · rw [if_neg h3, if_neg h3]
        by_cases h4 : 33 ≤ j ∧ j < 33 + nd
        · rw [if_pos h4, if_pos h4, if_neg (by omega)]
        · rw [if_neg h4, if_neg h4, if_neg (show ¬ 39 = 15 + e by omega)]
theorem rwF_uy {b r : Nat → Int32} {nc nd : Nat} (h5 : nc ≤ 5) (h6 : nd ≤ 6) (v : Int32) : rwF b nc nd (upd r 39 v) = upd (rwF b nc nd r) 39 v := by
  funext j
  unfold rwF upd
  by_cases h1 : j = 39
  · subst h1
    rw [if_neg (show ¬ 39 < 3 * nc by omega), if_neg (show ¬ (15 ≤ 39 ∧ 39 < 15 + 3 * nd) by omega), if_neg (show ¬ (33 ≤ 39 ∧ 39 < 33 + nd) by omega)]
    rfl
  · rw [if_neg h1]
    dsimp only
    by_cases h2 : j < 3 * nc
    · rw [if_pos h2, if_pos h2, if_neg (by omega)]
    · rw [if_neg h2, if_neg h2]
      by_cases h3 : 15 ≤ j ∧ j < 15 + 3 * nd
      · rw [if_pos h3, if_pos h3, if_neg (by omega), if_neg h1]
      · rw [if_neg h3, if_neg h3]
        by_cases h4 : 33 ≤ j ∧ j < 33 + nd
        · rw [if_pos h4, if_pos h4, if_neg (by omega), if_neg h1]
        · rw [if_neg h4, if_neg h4, if_neg h1, if_neg h1, if_neg h1]
theorem ro_ro (T : Nat → Nat → Int32) (c : Nat) (f g : Nat → Int32) : ab_ro (ab_ro T c f) c g = ab_ro T c g := by
  funext x
  by_cases h : x = c
  · subst h; rw [ab_ro_c, ab_ro_c]
  · rw [ab_ro_o h, ab_ro_o h, ab_ro_o h]
theorem vR_of {T : Nat → Nat → Int32} {nc nd : Nat} {r r' f : Nat → Int32} (h : rwF (T 11) nc nd r' = f) : vR T nc nd r' = ab_ro (vR T nc nd r) 11 f := by
  unfold vR
  rw [ro_ro, h]
theorem vR_11 (T : Nat → Nat → Int32) (nc nd : Nat) (r : Nat → Int32) : vR T nc nd r 11 = rwF (T 11) nc nd r := ab_ro_c ..
theorem seal_v {T : Nat → Nat → Int32} {nc nd c e : Nat} {r q : Nat → Int32} {PT : List (List Ins)} (h5 : nc ≤ 5) (h6 : nd ≤ 6) (hc : c < nc) (he : e < nd) (hq : ∀ f, f < 3 → q f = TV (vR T nc nd r) PT nd c e f) : vR T nc nd (slR r q c e) = ab_ro (vR T nc nd r) 11 (sealR (vR T nc nd r) PT nd c e) := by
  apply vR_of
  unfold slR sealR
  rw [rwF_us h5 h6 he, rwF_fp h5 h6 (by omega), rwF_fl h5 (by omega), ← vR_11, fillR_cg (g := q) (g' := TV (vR T nc nd r) PT nd c e) hq]
  congr 2
  exact fillR_cg (fun f hf => by rw [vR_l hc hf, hq f hf])
end

