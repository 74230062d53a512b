/-! the reference: tape, told, undone, held -/
def tpR (s : Nat → Nat → Int32) (L j : Nat) (F : Nat → Int32) : Nat → Nat → Int32 := ab_up (ab_ro s 82 (fillR (s 82) L j F)) 81 2 (nI (L + j))
theorem tpR_0 {s : Nat → Nat → Int32} {L : Nat} (F : Nat → Int32) (h : s 81 2 = nI L) : tpR s L 0 F = s := by
  unfold tpR
  funext c k
  by_cases h1 : c = 81
  · subst h1
    by_cases h2 : k = 2
    · subst h2; rw [ab_up_s]; exact h.symm
    · rw [ab_up_n h2, ab_ro_o (by decide)]
  · rw [ab_up_o h1]
    by_cases h2 : c = 82
    · subst h2; rw [ab_ro_c, fillR_0]
    · rw [ab_ro_o h2]
theorem tpR_s (s : Nat → Nat → Int32) (L j : Nat) (F : Nat → Int32) : ab_up (ab_up (tpR s L j F) 82 (L + j) (F j)) 81 2 (nI (L + j) + 1) = tpR s L (j + 1) F := by
  unfold tpR
  rw [← nI_succ, Nat.add_assoc]
  funext c k
  by_cases h1 : c = 81
  · subst h1
    by_cases h2 : k = 2
    · subst h2; rw [ab_up_s, ab_up_s]
    · rw [ab_up_n h2, ab_up_n h2, ab_up_o (by decide), ab_up_n h2, ab_ro_o (by decide), ab_ro_o (by decide)]
  · rw [ab_up_o h1, ab_up_o h1]
    by_cases h2 : c = 82
    · subst h2
      rw [ab_ro_c, ab_up_c, ← fillR_s, ab_up_o (by decide), ab_ro_c]
      rfl
    · rw [ab_up_o h2, ab_up_o h1, ab_ro_o h2, ab_ro_o h2]
theorem tpR_j {s : Nat → Nat → Int32} {L k j : Nat} {f g : Nat → Int32} (h : ∀ i, i < j → f (k + i) = g i) : tpR (tpR s L k f) (L + k) j g = tpR s L (k + j) f := by
  have e : tpR s L k f 82 = fillR (s 82) L k f := by
    unfold tpR
    rw [ab_up_o (by decide), ab_ro_c]
  unfold tpR at e ⊢
  rw [e, fillR_j h, Nat.add_assoc]
  funext c i
  by_cases h1 : c = 81
  · subst h1
    by_cases h2 : i = 2
    · subst h2; rw [ab_up_s, ab_up_s]
    · rw [ab_up_n h2, ab_up_n h2, ab_ro_o (by decide), ab_ro_o (by decide), ab_up_n h2, ab_ro_o (by decide)]
  · rw [ab_up_o h1, ab_up_o h1]
    by_cases h2 : c = 82
    · subst h2; rw [ab_ro_c, ab_ro_c]
    · rw [ab_ro_o h2, ab_ro_o h2, ab_up_o h1, ab_ro_o h2]
theorem tpR_l (s : Nat → Nat → Int32) (L j : Nat) (F : Nat → Int32) : tpR s L j F 81 2 = nI (L + j) := ab_up_s ..
theorem sh_smod : ∀ j, j < 4 → ((shF j &&& 31).toBitVec.smod 32) = BitVec.ofNat 32 (24 - 8 * j) := by decide
theorem shr_by (x : Int32) {j : Nat} (hj : j < 4) : (x >>> (shF j &&& 31)).toInt8.toInt32.toInt8.toInt32 = byF x j := by
  unfold byF
  have h : (x >>> (shF j &&& 31)).toInt8 = (ushr x (nI (24 - 8 * j))).toInt8 := by
    apply Int8.toBitVec_inj.mp
    rw [Int32.toBitVec_toInt8, Int32.toBitVec_toInt8, ushr_bv x (by omega), Int32.toBitVec_shiftRight, sh_smod j hj]
    apply BitVec.eq_of_getLsbD_eq
    intro i hi
    rw [BitVec.getLsbD_signExtend, BitVec.getLsbD_signExtend, if_pos (show i < 32 by omega), if_pos (show i < 32 by omega), BitVec.getLsbD_ushiftRight, BitVec.sshiftRight_eq', BitVec.toNat_ofNat, Nat.mod_eq_of_lt (by omega), BitVec.getLsbD_sshiftRight, decide_eq_false (show ¬ 32 ≤ i by omega), if_pos (show 24 - 8 * j + i < 32 by omega)]
    rfl
  rw [h]
section
variable (d : Nat) (fm : Value) (X : Nat × (Nat → Int32)) (s T : Nat → Nat → Int32) (t : Nat → Nat → Int64)
theorem t_Mo_lays {L : Nat} (hL : s 81 2 = nI L) (h2 : L + 4 ≤ 2000) (x : Int32) : ab_T g_Mo_lays d (0, 0) [.ref 81, .int x] (HA fm X s t) (PV (HA fm X (tpR s L 4 (byF x)) t)) := by
  refine ab_T_of (M := m_Mo_lays) rfl rfl (Nat.le_of_ble_eq_true rfl) ?_
  show ab_Z m_Mo_lays _ _ _ 0 [_, _, _] [] _
  refine ab_go ok_Mo_lays 2 rfl ?_
  show ab_Z m_Mo_lays _ _ _ 2 [_, _, _] [] _
  refine Eq.mpr (congrArg (fun z => ab_Z m_Mo_lays d (0, 0) (PV (HA fm X (tpR s L 4 (byF x)) t)) 2 [some (.ref 81), some (.int x), some (.int 24)] [] (HA fm X z t)) (tpR_0 (byF x) hL).symm) ?_
  refine lp_dn 4 (fun j => ab_Z m_Mo_lays d (0, 0) (PV (HA fm X (tpR s L 4 (byF x)) t)) 2 [some (.ref 81), some (.int x), some (.int (shF j))] [] (HA fm X (tpR s L j (byF x)) t)) ?_ ?_
  · refine ab_go ok_Mo_lays 1 rfl ?_
    show ab_Z m_Mo_lays _ _ _ 3 [_, _, _] [_] _
    refine ab_go ok_Mo_lays 1 rfl ?_
    show ab_Z m_Mo_lays _ _ _ 21 [_, _, _] [] _
    exact ab_rV ok_Mo_lays rfl (⟨rfl, rfl⟩)
  · intro j hj ih
    refine ab_go ok_Mo_lays 1 rfl ?_
    show ab_Z m_Mo_lays _ _ _ 3 [_, _, _] [_] _
    refine ab_br ok_Mo_lays rfl rfl ?_ ?_
    · intro h1
      show ab_Z m_Mo_lays _ _ _ 21 [_, _, _] [] _
      exact absurd h1 (shF_p j hj)
    · intro h1
      show ab_Z m_Mo_lays _ _ _ 4 [_, _, _] [] _
      refine ab_go ok_Mo_lays 8 rfl ?_
      show ab_Z m_Mo_lays _ _ _ 12 [_, _, _] [_, _, _] _
      rw [tpR_l]
      first | (refine ab_bs1 ok_Mo_lays rfl rfl (k := (L + j)) (by first | rfl | (simp only [LL1, LL2, LL3, LL4, LL5, LL6, LL7, LL8, LL10, LL15, LL18, LL20, LL21, LL22, LL23, LL24, LL32, LL39, LL40, LL130, LL420, pk_mul, nI_add]; done) | (simp only [LL1, LL2, LL3, LL4, LL5, LL6, LL7, LL8, LL10, LL15, LL18, LL20, LL21, LL22, LL23, LL24, LL32, LL39, LL40, LL130, LL420, pk_mul, nI_add]; congr 1; omega)) (by omega) (Nat.le_of_ble_eq_true rfl) ?_) | (refine ab_bs2 ok_Mo_lays rfl rfl (k := (L + j)) (by first | rfl | (simp only [LL1, LL2, LL3, LL4, LL5, LL6, LL7, LL8, LL10, LL15, LL18, LL20, LL21, LL22, LL23, LL24, LL32, LL39, LL40, LL130, LL420, pk_mul, nI_add]; done) | (simp only [LL1, LL2, LL3, LL4, LL5, LL6, LL7, LL8, LL10, LL15, LL18, LL20, LL21, LL22, LL23, LL24, LL32, LL39, LL40, LL130, LL420, pk_mul, nI_add]; congr 1; omega)) (by omega) (Nat.le_of_ble_eq_true rfl) ?_)
      show ab_Z m_Mo_lays _ _ _ 13 [_, _, _] [] _
      rw [shr_by x hj]
      refine ab_go ok_Mo_lays 8 rfl ?_
      show ab_Z m_Mo_lays _ _ _ 2 [_, _, _] [] _
      rw [ab_up_o (by decide), tpR_l, show shF j + (-8) = shF (j + 1) from shF_s j hj, tpR_s]
      exact ih
theorem t_Mo_feed {L : Nat} (hL : s 81 2 = nI L) (h2 : L ≤ 2000) (a b c e g : Int32) : ab_T g_Mo_feed (d + 1) (0, 0) [.ref 81, .int a, .int b, .int c, .int e, .int g] (HA fm X s t) (fun v h => v = some (.int (if L + 20 ≤ 2000 then nI (L + 20) else -1)) ∧ h = HA fm X (if L + 20 ≤ 2000 then tpR s L 20 (fedF a b c e g) else s) t) := by
  refine ab_T_of (M := m_Mo_feed) rfl rfl (Nat.le_of_ble_eq_true rfl) ?_
  show ab_Z m_Mo_feed _ _ _ 0 [_, _, _, _, _, _] [] _
  refine ab_go ok_Mo_feed 5 rfl ?_
  show ab_Z m_Mo_feed _ _ _ 5 [_, _, _, _, _, _] [_, _] _
  rw [hL, LL20, nI_add]
  refine ab_br ok_Mo_feed rfl rfl ?_ ?_
  · intro h1
    show ab_Z m_Mo_feed _ _ _ 8 [_, _, _, _, _, _] [] _
    have h3 : L + 20 ≤ 2000 := by
      have := i_leR (z := 2000) rfl h1
      rw [nI_t (by omega)] at this
      omega
    rw [if_pos h3, if_pos h3]
    refine ab_go ok_Mo_feed 2 rfl ?_
    show ab_Z m_Mo_feed _ _ _ 10 [_, _, _, _, _, _] [_, _] _
    refine ab_cl ok_Mo_feed rfl [_, _] [] rfl ⟨_, _, rfl, rfl, Or.inl ⟨_, _, rfl, rfl⟩⟩ (Nat.le_of_ble_eq_true rfl) (t_Mo_lays d fm X s t hL (by omega) a) ?_
    rintro _ _ ⟨rfl, rfl⟩
    show ab_Z m_Mo_feed _ _ _ 11 [_, _, _, _, _, _] [] _
    rw [show tpR s L 4 (byF a) = tpR s L (0 + 4) (fedF a b c e g) from by rw [← tpR_j (k := 0) (fedF_at a b c e g 0), tpR_0 _ hL]; rfl]
    refine ab_go ok_Mo_feed 2 rfl ?_
    show ab_Z m_Mo_feed _ _ _ 13 [_, _, _, _, _, _] [_, _] _
    refine ab_cl ok_Mo_feed rfl [_, _] [] rfl ⟨_, _, rfl, rfl, Or.inl ⟨_, _, rfl, rfl⟩⟩ (Nat.le_of_ble_eq_true rfl) (t_Mo_lays d fm X _ t (tpR_l s L 4 (fedF a b c e g)) (by omega) b) ?_
    rintro _ _ ⟨rfl, rfl⟩
    show ab_Z m_Mo_feed _ _ _ 14 [_, _, _, _, _, _] [] _
    rw [tpR_j (f := fedF a b c e g) (k := 4) (show ∀ i, i < 4 → fedF a b c e g (4 + i) = byF b i from fedF_at a b c e g 1)]
    refine ab_go ok_Mo_feed 2 rfl ?_
    show ab_Z m_Mo_feed _ _ _ 16 [_, _, _, _, _, _] [_, _] _
    refine ab_cl ok_Mo_feed rfl [_, _] [] rfl ⟨_, _, rfl, rfl, Or.inl ⟨_, _, rfl, rfl⟩⟩ (Nat.le_of_ble_eq_true rfl) (t_Mo_lays d fm X _ t (tpR_l s L 8 (fedF a b c e g)) (by omega) c) ?_
    rintro _ _ ⟨rfl, rfl⟩
    show ab_Z m_Mo_feed _ _ _ 17 [_, _, _, _, _, _] [] _
    rw [tpR_j (f := fedF a b c e g) (k := 8) (show ∀ i, i < 4 → fedF a b c e g (8 + i) = byF c i from fedF_at a b c e g 2)]
    refine ab_go ok_Mo_feed 2 rfl ?_
    show ab_Z m_Mo_feed _ _ _ 19 [_, _, _, _, _, _] [_, _] _
    refine ab_cl ok_Mo_feed rfl [_, _] [] rfl ⟨_, _, rfl, rfl, Or.inl ⟨_, _, rfl, rfl⟩⟩ (Nat.le_of_ble_eq_true rfl) (t_Mo_lays d fm X _ t (tpR_l s L 12 (fedF a b c e g)) (by omega) e) ?_
    rintro _ _ ⟨rfl, rfl⟩
    show ab_Z m_Mo_feed _ _ _ 20 [_, _, _, _, _, _] [] _
    rw [tpR_j (f := fedF a b c e g) (k := 12) (show ∀ i, i < 4 → fedF a b c e g (12 + i) = byF e i from fedF_at a b c e g 3)]
    refine ab_go ok_Mo_feed 2 rfl ?_
    show ab_Z m_Mo_feed _ _ _ 22 [_, _, _, _, _, _] [_, _] _
    refine ab_cl ok_Mo_feed rfl [_, _] [] rfl ⟨_, _, rfl, rfl, Or.inl ⟨_, _, rfl, rfl⟩⟩ (Nat.le_of_ble_eq_true rfl) (t_Mo_lays d fm X _ t (tpR_l s L 16 (fedF a b c e g)) (by omega) g) ?_
    rintro _ _ ⟨rfl, rfl⟩
    show ab_Z m_Mo_feed _ _ _ 23 [_, _, _, _, _, _] [] _
    rw [tpR_j (f := fedF a b c e g) (k := 16) (show ∀ i, i < 4 → fedF a b c e g (16 + i) = byF g i from fedF_at a b c e g 4)]
    refine ab_go ok_Mo_feed 2 rfl ?_
    show ab_Z m_Mo_feed _ _ _ 25 [_, _, _, _, _, _] [_] _
    rw [tpR_l]
    exact ab_rI ok_Mo_feed rfl (⟨rfl, rfl⟩)
  · intro h1
    show ab_Z m_Mo_feed _ _ _ 6 [_, _, _, _, _, _] [] _
    have h3 : ¬ L + 20 ≤ 2000 := by
      have := i_nleR (z := 2000) rfl h1
      rw [nI_t (by omega)] at this
      omega
    rw [if_neg h3, if_neg h3]
    refine ab_go ok_Mo_feed 1 rfl ?_
    show ab_Z m_Mo_feed _ _ _ 7 [_, _, _, _, _, _] [_] _
    exact ab_rI ok_Mo_feed rfl (⟨rfl, rfl⟩)
theorem t_Mo_back {L : Nat} (hL : s 81 2 = nI L) (h2 : L ≤ 2000) (x : Int32) : ab_T g_Mo_back d (0, 0) [.ref 81, .int x] (HA fm X s t) (fun v h => v = some (.int (if inR (L + 1) x then nI (L - x.toNatClampNeg) else -1)) ∧ h = HA fm X (if inR (L + 1) x then ab_up s 81 2 (nI (L - x.toNatClampNeg)) else s) t) := by
  refine ab_T_of (M := m_Mo_back) rfl rfl (Nat.le_of_ble_eq_true rfl) ?_
  show ab_Z m_Mo_back _ _ _ 0 [_, _] [] _
  refine ab_go ok_Mo_back 1 rfl ?_
  show ab_Z m_Mo_back _ _ _ 1 [_, _] [_] _
  refine ab_br ok_Mo_back rfl rfl ?_ ?_
  · intro h1
    show ab_Z m_Mo_back _ _ _ 6 [_, _] [] _
    refine ab_go ok_Mo_back 1 rfl ?_
    show ab_Z m_Mo_back _ _ _ 7 [_, _] [_] _
    have h3 : ¬ inR (L + 1) x := fun q => by have := i_neg h1; have := q.1; omega
    exact ab_rI ok_Mo_back rfl (⟨by rw [if_neg h3], by rw [if_neg h3]⟩)
  · intro h1
    show ab_Z m_Mo_back _ _ _ 2 [_, _] [] _
    refine ab_go ok_Mo_back 3 rfl ?_
    show ab_Z m_Mo_back _ _ _ 5 [_, _] [_, _] _
    rw [hL]
    refine ab_br ok_Mo_back rfl rfl ?_ ?_
    · intro h3
      show ab_Z m_Mo_back _ _ _ 8 [_, _] [] _
      have h4 : inR (L + 1) x := ⟨i_nn h1, by have := i_le h3; rw [nI_t (n := L) (by omega)] at this; omega⟩
      clear h1 h3
      refine ab_go ok_Mo_back 8 rfl ?_
      show ab_Z m_Mo_back _ _ _ 16 [_, _] [_] _
      rw [hL]
      obtain ⟨k, hk, rfl⟩ := inR_nat h4
      have e : nI L - nI k = nI (L - k) := by
        rw [show nI L = nI (L - k) + nI k from by rw [nI_add, Nat.sub_add_cancel (by omega)]]
        exact Int32.add_sub_cancel ..
      rw [e, ab_up_s]
      exact ab_rI ok_Mo_back rfl (⟨by rw [if_pos h4, nI_c (by omega)], by rw [if_pos h4, nI_c (by omega)]⟩)
    · intro h3
      show ab_Z m_Mo_back _ _ _ 6 [_, _] [] _
      refine ab_go ok_Mo_back 1 rfl ?_
      show ab_Z m_Mo_back _ _ _ 7 [_, _] [_] _
      have h4 : ¬ inR (L + 1) x := fun q => by have := i_nle h3; rw [nI_t (n := L) (by omega)] at this; have := q.2; omega
      exact ab_rI ok_Mo_back rfl (⟨by rw [if_neg h4], by rw [if_neg h4]⟩)
theorem t_Mo_place : ab_T g_Mo_place d (0, 0) [.ref 81] (HA fm X s t) (PI (s 81 17) (HA fm X s t)) := by
  refine ab_T_of (M := m_Mo_place) rfl rfl (Nat.le_of_ble_eq_true rfl) ?_
  show ab_Z m_Mo_place _ _ _ 0 [_] [] _
  refine ab_go ok_Mo_place 2 rfl ?_
  show ab_Z m_Mo_place _ _ _ 2 [_] [_] _
  exact ab_rI ok_Mo_place rfl (⟨rfl, rfl⟩)
theorem t_Mo_forget : ab_T g_Mo_forget d (0, 0) [.ref 81] (HA fm X s t) (PI (s 81 63) (HA fm X (ab_up s 81 63 0) t)) := by
  refine ab_T_of (M := m_Mo_forget) rfl rfl (Nat.le_of_ble_eq_true rfl) ?_
  show ab_Z m_Mo_forget _ _ _ 0 [_, _] [] _
  refine ab_go ok_Mo_forget 7 rfl ?_
  show ab_Z m_Mo_forget _ _ _ 7 [_, _] [_] _
  exact ab_rI ok_Mo_forget rfl (⟨rfl, rfl⟩)
def toldR (s : Nat → Nat → Int32) (k : Nat) (f v b : Int32) : Nat → Nat → Int32 := ab_up (ab_up (ab_up (ab_up s 124 k f) 125 k v) 126 k (b &&& 1)) 81 63 (nI (k + 1))
theorem t_Mo_tell {k : Nat} (hk : s 81 63 = nI k) (hk2 : k ≤ 20) (f v b : Int32) : ab_T g_Mo_tell (d + 2) (0, 0) [.ref 81, .int f, .int v, .int b] (HA fm X s t) (fun r h => r = some (.int (if (inR 3 f ∧ inR 10 v) ∧ k < 20 then nI k else -1)) ∧ h = HA fm X (if (inR 3 f ∧ inR 10 v) ∧ k < 20 then toldR s k f v b else s) t) := by
  generalize hPo : (fun r h => r = some (.int (if (inR 3 f ∧ inR 10 v) ∧ k < 20 then nI k else -1)) ∧ h = HA fm X (if (inR 3 f ∧ inR 10 v) ∧ k < 20 then toldR s k f v b else s) t : Option Value → ab_H → Prop) = Po
  have no : ¬ ((inR 3 f ∧ inR 10 v) ∧ k < 20) → ab_Z m_Mo_tell (d + 2) (0, 0) Po 12 [some (.ref 81), some (.int f), some (.int v), some (.int b)] [] (HA fm X s t) := by
    intro hn
    rw [← hPo]
    refine ab_go ok_Mo_tell 1 rfl ?_
    show ab_Z m_Mo_tell _ _ _ 13 [_, _, _, _] [_] _
    exact ab_rI ok_Mo_tell rfl (⟨by rw [if_neg hn], by rw [if_neg hn]⟩)
  refine ab_T_of (M := m_Mo_tell) rfl rfl (Nat.le_of_ble_eq_true rfl) ?_
  show ab_Z m_Mo_tell _ _ _ 0 [_, _, _, _] [] _
  refine ab_go ok_Mo_tell 3 rfl ?_
  show ab_Z m_Mo_tell _ _ _ 3 [_, _, _, _] [_, _] _
  rw [hk]
  refine ab_br ok_Mo_tell rfl rfl ?_ ?_
  · intro h1
    show ab_Z m_Mo_tell _ _ _ 12 [_, _, _, _] [] _
    refine no (fun z => ?_)
    have h3 := congrArg Int32.toInt h1
    rw [nI_t (by omega)] at h3
    have h20 : (20 : Int32).toInt = 20 := rfl
    omega
  · intro h1
    show ab_Z m_Mo_tell _ _ _ 4 [_, _, _, _] [] _
    have hk20 : k < 20 := by
      rcases Nat.lt_or_ge k 20 with h | h
      · exact h
      · exact absurd (by rw [show k = 20 by omega]; rfl) h1
    refine ab_go ok_Mo_tell 1 rfl ?_
    show ab_Z m_Mo_tell _ _ _ 5 [_, _, _, _] [_] _
    refine ab_cl ok_Mo_tell rfl [_] [] rfl rfl (Nat.le_of_ble_eq_true rfl) (t_Mo_isFeature d _ f) ?_
    rintro _ _ ⟨rfl, rfl⟩
    show ab_Z m_Mo_tell _ _ _ 6 [_, _, _, _] [_] _
    refine ab_br ok_Mo_tell rfl rfl ?_ ?_
    · intro h2
      show ab_Z m_Mo_tell _ _ _ 12 [_, _, _, _] [] _
      exact no (fun z => bI_0.mp h2 z.1.1)
    · intro h2
      show ab_Z m_Mo_tell _ _ _ 7 [_, _, _, _] [] _
      refine ab_go ok_Mo_tell 3 rfl ?_
      show ab_Z m_Mo_tell _ _ _ 10 [_, _, _, _] [_, _, _] _
      refine ab_cl ok_Mo_tell rfl [_, _, _] [] rfl rfl (Nat.le_of_ble_eq_true rfl) (t_Mo_in (d + 1) _ v 0 9) ?_
      rintro _ _ ⟨rfl, rfl⟩
      show ab_Z m_Mo_tell _ _ _ 11 [_, _, _, _] [_] _
      refine ab_br ok_Mo_tell rfl rfl ?_ ?_
      · intro h3
        show ab_Z m_Mo_tell _ _ _ 12 [_, _, _, _] [] _
        refine no (fun z => bI_0.mp h3 ?_)
        have := z.1.2
        unfold inR at this
        show (0 : Int) ≤ v.toInt ∧ v.toInt ≤ 9
        omega
      · intro h3
        show ab_Z m_Mo_tell _ _ _ 14 [_, _, _, _] [] _
        have hv : inR 10 v := by
          have := bI_n0 h3
          unfold inR
          have h0 : (0 : Int) ≤ v.toInt ∧ v.toInt ≤ 9 := this
          omega
        have hall : (inR 3 f ∧ inR 10 v) ∧ k < 20 := ⟨⟨bI_n0 h2, hv⟩, hk20⟩
        refine ab_go ok_Mo_tell 5 rfl ?_
        show ab_Z m_Mo_tell _ _ _ 19 [_, _, _, _] [_, _, _] _
        rw [hk]
        refine ab_is ok_Mo_tell rfl rfl (k := k) (by first | rfl | (simp only [LL1, LL2, LL3, LL4, LL5, LL6, LL7, LL8, LL10, LL15, LL18, LL20, LL21, LL22, LL23, LL24, LL32, LL39, LL40, LL130, LL420, pk_mul, nI_add]; done) | (simp only [LL1, LL2, LL3, LL4, LL5, LL6, LL7, LL8, LL10, LL15, LL18, LL20, LL21, LL22, LL23, LL24, LL32, LL39, LL40, LL130, LL420, pk_mul, nI_add]; congr 1; omega)) (by omega) (Nat.le_of_ble_eq_true rfl) ?_
        show ab_Z m_Mo_tell _ _ _ 20 [_, _, _, _] [] _
        refine ab_go ok_Mo_tell 5 rfl ?_
        show ab_Z m_Mo_tell _ _ _ 25 [_, _, _, _] [_, _, _] _
        rw [ab_up_o (by decide), hk]
        refine ab_is ok_Mo_tell rfl rfl (k := k) (by first | rfl | (simp only [LL1, LL2, LL3, LL4, LL5, LL6, LL7, LL8, LL10, LL15, LL18, LL20, LL21, LL22, LL23, LL24, LL32, LL39, LL40, LL130, LL420, pk_mul, nI_add]; done) | (simp only [LL1, LL2, LL3, LL4, LL5, LL6, LL7, LL8, LL10, LL15, LL18, LL20, LL21, LL22, LL23, LL24, LL32, LL39, LL40, LL130, LL420, pk_mul, nI_add]; congr 1; omega)) (by omega) (Nat.le_of_ble_eq_true rfl) ?_
        show ab_Z m_Mo_tell _ _ _ 26 [_, _, _, _] [] _
        refine ab_go ok_Mo_tell 5 rfl ?_
        show ab_Z m_Mo_tell _ _ _ 31 [_, _, _, _] [_, _, _] _
        rw [ab_up_o (by decide), ab_up_o (by decide), hk]
        first | (refine ab_bs1 ok_Mo_tell rfl rfl (k := k) (by first | rfl | (simp only [LL1, LL2, LL3, LL4, LL5, LL6, LL7, LL8, LL10, LL15, LL18, LL20, LL21, LL22, LL23, LL24, LL32, LL39, LL40, LL130, LL420, pk_mul, nI_add]; done) | (simp only [LL1, LL2, LL3, LL4, LL5, LL6, LL7, LL8, LL10, LL15, LL18, LL20, LL21, LL22, LL23, LL24, LL32, LL39, LL40, LL130, LL420, pk_mul, nI_add]; congr 1; omega)) (by omega) (Nat.le_of_ble_eq_true rfl) ?_) | (refine ab_bs2 ok_Mo_tell rfl rfl (k := k) (by first | rfl | (simp only [LL1, LL2, LL3, LL4, LL5, LL6, LL7, LL8, LL10, LL15, LL18, LL20, LL21, LL22, LL23, LL24, LL32, LL39, LL40, LL130, LL420, pk_mul, nI_add]; done) | (simp only [LL1, LL2, LL3, LL4, LL5, LL6, LL7, LL8, LL10, LL15, LL18, LL20, LL21, LL22, LL23, LL24, LL32, LL39, LL40, LL130, LL420, pk_mul, nI_add]; congr 1; omega)) (by omega) (Nat.le_of_ble_eq_true rfl) ?_)
        show ab_Z m_Mo_tell _ _ _ 32 [_, _, _, _] [] _
        refine ab_go ok_Mo_tell 10 rfl ?_
        show ab_Z m_Mo_tell _ _ _ 42 [_, _, _, _] [_] _
        have fin : Po (some (.int (nI k + 1 - 1))) (HA fm X (toldR s k f v b) t) := by
          rw [← hPo]
          exact ⟨by rw [if_pos hall, Int32.add_sub_cancel], by rw [if_pos hall]⟩
        rw [ab_up_s, ab_up_o (by decide), ab_up_o (by decide), ab_up_o (by decide), hk]
        unfold toldR at fin
        rw [nI_succ] at fin
        exact ab_rI ok_Mo_tell rfl (fin)
def unR (s : Nat → Nat → Int32) (u : Nat) : Nat → Nat → Int32 := ab_ro (ab_up s 81 56 (nI (u - 1))) 114 (fillR (s 114) 0 40 (fun j => s 119 (40 * (u - 1) + j)))
theorem t_Mo_undo {u : Nat} (hu : s 81 56 = nI u) (hu4 : u ≤ 40) : ab_T g_Mo_undo d (0, 0) [.ref 81] (HA fm X s t) (fun v h => v = some (.int (bB (decide (0 < u)))) ∧ h = HA fm X (if 0 < u then unR s u else s) t) := by
  generalize hPo : (fun v h => v = some (.int (bB (decide (0 < u)))) ∧ h = HA fm X (if 0 < u then unR s u else s) t : Option Value → ab_H → Prop) = Po
  refine ab_T_of (M := m_Mo_undo) rfl rfl (Nat.le_of_ble_eq_true rfl) ?_
  show ab_Z m_Mo_undo _ _ _ 0 [_, _] [] _
  refine ab_go ok_Mo_undo 2 rfl ?_
  show ab_Z m_Mo_undo _ _ _ 2 [_, _] [_] _
  rw [hu]
  refine ab_br ok_Mo_undo rfl rfl ?_ ?_
  · intro h1
    show ab_Z m_Mo_undo _ _ _ 3 [_, _] [] _
    have h0 : u = 0 := (nI_z (by omega)).mp h1
    subst h0
    refine ab_go ok_Mo_undo 1 rfl ?_
    show ab_Z m_Mo_undo _ _ _ 4 [_, _] [_] _
    have fin : Po (some (.int 0)) (HA fm X s t) := by
      rw [← hPo]
      exact ⟨rfl, rfl⟩
    exact ab_rZ ok_Mo_undo rfl (by first | decide | exact bB_01 _ | exact bI_01 _) (fin)
  · intro h1
    show ab_Z m_Mo_undo _ _ _ 5 [_, _] [] _
    have h0 : 0 < u := by
      rcases Nat.eq_zero_or_pos u with h | h
      · subst h; exact absurd rfl h1
      · exact h
    refine ab_go ok_Mo_undo 8 rfl ?_
    show ab_Z m_Mo_undo _ _ _ 13 [_, _] [] _
    rw [hu, nI_sub1 h0]
    have := lp_dn 40 (fun k => ab_Z m_Mo_undo d (0, 0) Po 13 [some (.ref 81), some (.int (nI k))] [] (HA fm X (ab_ro (ab_up s 81 56 (nI (u - 1))) 114 (fillR (s 114) 0 k (fun j => s 119 (40 * (u - 1) + j)))) t)) ?_ ?_
    · rw [fillR_0, show ab_ro (ab_up s 81 56 (nI (u - 1))) 114 (s 114) = ab_up s 81 56 (nI (u - 1)) from ro_id ..] at this
      exact this
    · refine ab_go ok_Mo_undo 2 rfl ?_
      show ab_Z m_Mo_undo _ _ _ 15 [_, _] [_, _] _
      refine ab_go ok_Mo_undo 1 rfl ?_
      show ab_Z m_Mo_undo _ _ _ 31 [_, _] [] _
      refine ab_go ok_Mo_undo 1 rfl ?_
      show ab_Z m_Mo_undo _ _ _ 32 [_, _] [_] _
      have fin : Po (some (.int 1)) (HA fm X (unR s u) t) := by
        rw [← hPo]
        exact ⟨by rw [decide_eq_true h0]; rfl, by rw [if_pos h0]⟩
      unfold unR at fin
      exact ab_rZ ok_Mo_undo rfl (by first | decide | exact bB_01 _ | exact bI_01 _) (fin)
    · intro k hk ih
      refine ab_go ok_Mo_undo 2 rfl ?_
      show ab_Z m_Mo_undo _ _ _ 15 [_, _] [_, _] _
      refine ab_br ok_Mo_undo rfl rfl ?_ ?_
      · intro h2
        show ab_Z m_Mo_undo _ _ _ 31 [_, _] [] _
        exact absurd h2 (lp_in (N := 40) (by decide) hk)
      · intro h2
        show ab_Z m_Mo_undo _ _ _ 16 [_, _] [] _
        refine ab_go ok_Mo_undo 11 rfl ?_
        show ab_Z m_Mo_undo _ _ _ 27 [_, _] [_, _, _, _] _
        rw [show ab_ro (ab_up s 81 56 (nI (u - 1))) 114 (fillR (s 114) 0 k (fun j => s 119 (40 * (u - 1) + j))) 81 56 = nI (u - 1) from by rw [ab_ro_o (by decide), ab_up_s]]
        refine ab_ia ok_Mo_undo rfl rfl (k := (40 * (u - 1) + k)) (by first | rfl | (simp only [LL1, LL2, LL3, LL4, LL5, LL6, LL7, LL8, LL10, LL15, LL18, LL20, LL21, LL22, LL23, LL24, LL32, LL39, LL40, LL130, LL420, pk_mul, nI_add]; done) | (simp only [LL1, LL2, LL3, LL4, LL5, LL6, LL7, LL8, LL10, LL15, LL18, LL20, LL21, LL22, LL23, LL24, LL32, LL39, LL40, LL130, LL420, pk_mul, nI_add]; congr 1; omega)) (by omega) (Nat.le_of_ble_eq_true rfl) ?_
        show ab_Z m_Mo_undo _ _ _ 28 [_, _] [_, _, _] _
        rw [show ab_ro (ab_up s 81 56 (nI (u - 1))) 114 (fillR (s 114) 0 k (fun j => s 119 (40 * (u - 1) + j))) 119 (40 * (u - 1) + k) = s 119 (40 * (u - 1) + k) from by rw [ab_ro_o (by decide), ab_up_o (by decide)]]
        refine ab_is ok_Mo_undo rfl rfl (k := k) (by first | rfl | (simp only [LL1, LL2, LL3, LL4, LL5, LL6, LL7, LL8, LL10, LL15, LL18, LL20, LL21, LL22, LL23, LL24, LL32, LL39, LL40, LL130, LL420, pk_mul, nI_add]; done) | (simp only [LL1, LL2, LL3, LL4, LL5, LL6, LL7, LL8, LL10, LL15, LL18, LL20, LL21, LL22, LL23, LL24, LL32, LL39, LL40, LL130, LL420, pk_mul, nI_add]; congr 1; omega)) (by omega) (Nat.le_of_ble_eq_true rfl) ?_
        show ab_Z m_Mo_undo _ _ _ 29 [_, _] [] _
        rw [ro_up, show upd (fillR (s 114) 0 k (fun j => s 119 (40 * (u - 1) + j))) k (s 119 (40 * (u - 1) + k)) = fillR (s 114) 0 (k + 1) (fun j => s 119 (40 * (u - 1) + j)) from by rw [← fillR_s, Nat.zero_add]]
        refine ab_go ok_Mo_undo 2 rfl ?_
        show ab_Z m_Mo_undo _ _ _ 13 [_, _] [] _
        rw [nI_succ] at ih
        exact ih
def slR' (s : Nat → Nat → Int32) (k : Nat) : Nat → Nat → Int32 := ab_ro (ab_up s 127 k 1) 128 (fillR (s 128) (40 * k) 40 (s 114))
theorem t_Mo_hold (x : Int32) : ab_T g_Mo_hold (d + 1) (0, 0) [.ref 81, .int x] (HA fm X s t) (fun v h => v = some (.int (bI (inR 3 x))) ∧ h = HA fm X (if inR 3 x then slR' s x.toNatClampNeg else s) t) := by
  have hin : ((0 : Int32).toInt ≤ x.toInt ∧ x.toInt ≤ (2 : Int32).toInt) ↔ inR 3 x := by
    show (0 : Int) ≤ x.toInt ∧ x.toInt ≤ 2 ↔ _
    unfold inR
    omega
  generalize hPo : (fun v h => v = some (.int (bI (inR 3 x))) ∧ h = HA fm X (if inR 3 x then slR' s x.toNatClampNeg else s) t : Option Value → ab_H → Prop) = Po
  refine ab_T_of (M := m_Mo_hold) rfl rfl (Nat.le_of_ble_eq_true rfl) ?_
  show ab_Z m_Mo_hold _ _ _ 0 [_, _, _] [] _
  refine ab_go ok_Mo_hold 3 rfl ?_
  show ab_Z m_Mo_hold _ _ _ 3 [_, _, _] [_, _, _] _
  refine ab_cl ok_Mo_hold rfl [_, _, _] [] rfl rfl (Nat.le_of_ble_eq_true rfl) (t_Mo_in d _ x 0 2) ?_
  rintro _ _ ⟨rfl, rfl⟩
  show ab_Z m_Mo_hold _ _ _ 4 [_, _, _] [_] _
  rw [bI_c hin]
  refine ab_br ok_Mo_hold rfl rfl ?_ ?_
  · intro h1
    show ab_Z m_Mo_hold _ _ _ 5 [_, _, _] [] _
    have hn := bI_0.mp h1
    refine ab_go ok_Mo_hold 1 rfl ?_
    show ab_Z m_Mo_hold _ _ _ 6 [_, _, _] [_] _
    have fin : Po (some (.int 0)) (HA fm X s t) := by
      rw [← hPo]
      exact ⟨by rw [bI_f hn], by rw [if_neg hn]⟩
    exact ab_rZ ok_Mo_hold rfl (by first | decide | exact bB_01 _ | exact bI_01 _) (fin)
  · intro h1
    show ab_Z m_Mo_hold _ _ _ 7 [_, _, _] [] _
    have hx := bI_n0 h1
    obtain ⟨w, hw, rfl⟩ := inR_nat hx
    refine ab_go ok_Mo_hold 4 rfl ?_
    show ab_Z m_Mo_hold _ _ _ 11 [_, _, _] [_, _, _] _
    first | (refine ab_bs1 ok_Mo_hold rfl rfl (k := w) (by first | rfl | (simp only [LL1, LL2, LL3, LL4, LL5, LL6, LL7, LL8, LL10, LL15, LL18, LL20, LL21, LL22, LL23, LL24, LL32, LL39, LL40, LL130, LL420, pk_mul, nI_add]; done) | (simp only [LL1, LL2, LL3, LL4, LL5, LL6, LL7, LL8, LL10, LL15, LL18, LL20, LL21, LL22, LL23, LL24, LL32, LL39, LL40, LL130, LL420, pk_mul, nI_add]; congr 1; omega)) (by omega) (Nat.le_of_ble_eq_true rfl) ?_) | (refine ab_bs2 ok_Mo_hold rfl rfl (k := w) (by first | rfl | (simp only [LL1, LL2, LL3, LL4, LL5, LL6, LL7, LL8, LL10, LL15, LL18, LL20, LL21, LL22, LL23, LL24, LL32, LL39, LL40, LL130, LL420, pk_mul, nI_add]; done) | (simp only [LL1, LL2, LL3, LL4, LL5, LL6, LL7, LL8, LL10, LL15, LL18, LL20, LL21, LL22, LL23, LL24, LL32, LL39, LL40, LL130, LL420, pk_mul, nI_add]; congr 1; omega)) (by omega) (Nat.le_of_ble_eq_true rfl) ?_)
    show ab_Z m_Mo_hold _ _ _ 12 [_, _, _] [] _
    refine ab_go ok_Mo_hold 2 rfl ?_
    show ab_Z m_Mo_hold _ _ _ 14 [_, _, _] [] _
    have := lp_dn 40 (fun k => ab_Z m_Mo_hold (d + 1) (0, 0) Po 14 [some (.ref 81), some (.int (nI w)), some (.int (nI k))] [] (HA fm X (ab_ro (ab_up s 127 w 1) 128 (fillR (s 128) (40 * w) k (s 114))) t)) ?_ ?_
    · rw [fillR_0, show ab_ro (ab_up s 127 w 1) 128 (s 128) = ab_up s 127 w 1 from ro_id ..] at this
      exact this
    · refine ab_go ok_Mo_hold 2 rfl ?_
      show ab_Z m_Mo_hold _ _ _ 16 [_, _, _] [_, _] _
      refine ab_go ok_Mo_hold 1 rfl ?_
      show ab_Z m_Mo_hold _ _ _ 31 [_, _, _] [] _
      refine ab_go ok_Mo_hold 1 rfl ?_
      show ab_Z m_Mo_hold _ _ _ 32 [_, _, _] [_] _
      have fin : Po (some (.int 1)) (HA fm X (slR' s w) t) := by
        rw [← hPo]
        exact ⟨by rw [bI_t hx], by rw [if_pos hx, nI_c (by omega)]⟩
      unfold slR' at fin
      exact ab_rZ ok_Mo_hold rfl (by first | decide | exact bB_01 _ | exact bI_01 _) (fin)
    · intro k hk ih
      refine ab_go ok_Mo_hold 2 rfl ?_
      show ab_Z m_Mo_hold _ _ _ 16 [_, _, _] [_, _] _
      refine ab_br ok_Mo_hold rfl rfl ?_ ?_
      · intro h2
        show ab_Z m_Mo_hold _ _ _ 31 [_, _, _] [] _
        exact absurd h2 (lp_in (N := 40) (by decide) hk)
      · intro h2
        show ab_Z m_Mo_hold _ _ _ 17 [_, _, _] [] _
        refine ab_go ok_Mo_hold 10 rfl ?_
        show ab_Z m_Mo_hold _ _ _ 27 [_, _, _] [_, _, _, _] _
        refine ab_ia ok_Mo_hold rfl rfl (k := k) (by first | rfl | (simp only [LL1, LL2, LL3, LL4, LL5, LL6, LL7, LL8, LL10, LL15, LL18, LL20, LL21, LL22, LL23, LL24, LL32, LL39, LL40, LL130, LL420, pk_mul, nI_add]; done) | (simp only [LL1, LL2, LL3, LL4, LL5, LL6, LL7, LL8, LL10, LL15, LL18, LL20, LL21, LL22, LL23, LL24, LL32, LL39, LL40, LL130, LL420, pk_mul, nI_add]; congr 1; omega)) (by omega) (Nat.le_of_ble_eq_true rfl) ?_
        show ab_Z m_Mo_hold _ _ _ 28 [_, _, _] [_, _, _] _
        rw [show ab_ro (ab_up s 127 w 1) 128 (fillR (s 128) (40 * w) k (s 114)) 114 k = s 114 k from by rw [ab_ro_o (by decide), ab_up_o (by decide)]]
        refine ab_is ok_Mo_hold rfl rfl (k := (40 * w + k)) (by first | rfl | (simp only [LL1, LL2, LL3, LL4, LL5, LL6, LL7, LL8, LL10, LL15, LL18, LL20, LL21, LL22, LL23, LL24, LL32, LL39, LL40, LL130, LL420, pk_mul, nI_add]; done) | (simp only [LL1, LL2, LL3, LL4, LL5, LL6, LL7, LL8, LL10, LL15, LL18, LL20, LL21, LL22, LL23, LL24, LL32, LL39, LL40, LL130, LL420, pk_mul, nI_add]; congr 1; omega)) (by omega) (Nat.le_of_ble_eq_true rfl) ?_
        show ab_Z m_Mo_hold _ _ _ 29 [_, _, _] [] _
        rw [ro_up, fillR_s]
        refine ab_go ok_Mo_hold 2 rfl ?_
        show ab_Z m_Mo_hold _ _ _ 14 [_, _, _] [] _
        rw [nI_succ] at ih
        exact ih
def slG (s : Nat → Nat → Int32) (k : Nat) : Nat → Nat → Int32 := ab_up (ab_ro s 114 (fillR (s 114) 0 40 (fun j => s 128 (40 * k + j)))) 81 56 0
theorem t_Mo_restore (x : Int32) : ab_T g_Mo_restore (d + 1) (0, 0) [.ref 81, .int x] (HA fm X s t) (fun v h => v = some (.int (bI (inR 3 x ∧ ¬ s 127 x.toNatClampNeg = 0))) ∧ h = HA fm X (if inR 3 x ∧ ¬ s 127 x.toNatClampNeg = 0 then slG s x.toNatClampNeg else s) t) := by
  have hin : ((0 : Int32).toInt ≤ x.toInt ∧ x.toInt ≤ (2 : Int32).toInt) ↔ inR 3 x := by
    show (0 : Int) ≤ x.toInt ∧ x.toInt ≤ 2 ↔ _
    unfold inR
    omega
  generalize hPo : (fun v h => v = some (.int (bI (inR 3 x ∧ ¬ s 127 x.toNatClampNeg = 0))) ∧ h = HA fm X (if inR 3 x ∧ ¬ s 127 x.toNatClampNeg = 0 then slG s x.toNatClampNeg else s) t : Option Value → ab_H → Prop) = Po
  have no : ¬ (inR 3 x ∧ ¬ s 127 x.toNatClampNeg = 0) → ab_Z m_Mo_restore (d + 1) (0, 0) Po 10 [some (.ref 81), some (.int x), none] [] (HA fm X s t) := by
    intro hn
    have fin : Po (some (.int 0)) (HA fm X s t) := by
      rw [← hPo]
      exact ⟨by rw [bI_f hn], by rw [if_neg hn]⟩
    refine ab_go ok_Mo_restore 1 rfl ?_
    show ab_Z m_Mo_restore _ _ _ 11 [_, _, _] [_] _
    exact ab_rZ ok_Mo_restore rfl (by first | decide | exact bB_01 _ | exact bI_01 _) (fin)
  refine ab_T_of (M := m_Mo_restore) rfl rfl (Nat.le_of_ble_eq_true rfl) ?_
  show ab_Z m_Mo_restore _ _ _ 0 [_, _, _] [] _
  refine ab_go ok_Mo_restore 3 rfl ?_
  show ab_Z m_Mo_restore _ _ _ 3 [_, _, _] [_, _, _] _
  refine ab_cl ok_Mo_restore rfl [_, _, _] [] rfl rfl (Nat.le_of_ble_eq_true rfl) (t_Mo_in d _ x 0 2) ?_
  rintro _ _ ⟨rfl, rfl⟩
  show ab_Z m_Mo_restore _ _ _ 4 [_, _, _] [_] _
  rw [bI_c hin]
  refine ab_br ok_Mo_restore rfl rfl ?_ ?_
  · intro h1
    show ab_Z m_Mo_restore _ _ _ 10 [_, _, _] [] _
    exact no (fun z => bI_0.mp h1 z.1)
  · intro h1
    show ab_Z m_Mo_restore _ _ _ 5 [_, _, _] [] _
    have hx := bI_n0 h1
    obtain ⟨w, hw, rfl⟩ := inR_nat hx
    rw [nI_c (by omega)] at hPo no
    refine ab_go ok_Mo_restore 3 rfl ?_
    show ab_Z m_Mo_restore _ _ _ 8 [_, _, _] [_, _] _
    first | (refine ab_ba1 ok_Mo_restore rfl rfl (k := w) (by first | rfl | (simp only [LL1, LL2, LL3, LL4, LL5, LL6, LL7, LL8, LL10, LL15, LL18, LL20, LL21, LL22, LL23, LL24, LL32, LL39, LL40, LL130, LL420, pk_mul, nI_add]; done) | (simp only [LL1, LL2, LL3, LL4, LL5, LL6, LL7, LL8, LL10, LL15, LL18, LL20, LL21, LL22, LL23, LL24, LL32, LL39, LL40, LL130, LL420, pk_mul, nI_add]; congr 1; omega)) (by omega) (Nat.le_of_ble_eq_true rfl) ?_) | (refine ab_ba2 ok_Mo_restore rfl rfl (k := w) (by first | rfl | (simp only [LL1, LL2, LL3, LL4, LL5, LL6, LL7, LL8, LL10, LL15, LL18, LL20, LL21, LL22, LL23, LL24, LL32, LL39, LL40, LL130, LL420, pk_mul, nI_add]; done) | (simp only [LL1, LL2, LL3, LL4, LL5, LL6, LL7, LL8, LL10, LL15, LL18, LL20, LL21, LL22, LL23, LL24, LL32, LL39, LL40, LL130, LL420, pk_mul, nI_add]; congr 1; omega)) (by omega) (Nat.le_of_ble_eq_true rfl) ?_)
    show ab_Z m_Mo_restore _ _ _ 9 [_, _, _] [_] _
    refine ab_br ok_Mo_restore rfl rfl ?_ ?_
    · intro h2
      show ab_Z m_Mo_restore _ _ _ 10 [_, _, _] [] _
      exact no (fun z => z.2 h2)
    · intro h2
      show ab_Z m_Mo_restore _ _ _ 12 [_, _, _] [] _
      have h2' : ¬ s 127 w = 0 := h2
      refine ab_go ok_Mo_restore 2 rfl ?_
      show ab_Z m_Mo_restore _ _ _ 14 [_, _, _] [] _
      have := lp_dn 40 (fun k => ab_Z m_Mo_restore (d + 1) (0, 0) Po 14 [some (.ref 81), some (.int (nI w)), some (.int (nI k))] [] (HA fm X (ab_ro s 114 (fillR (s 114) 0 k (fun j => s 128 (40 * w + j)))) t)) ?_ ?_
      · rw [fillR_0, ro_id] at this
        exact this
      · refine ab_go ok_Mo_restore 2 rfl ?_
        show ab_Z m_Mo_restore _ _ _ 16 [_, _, _] [_, _] _
        refine ab_go ok_Mo_restore 1 rfl ?_
        show ab_Z m_Mo_restore _ _ _ 31 [_, _, _] [] _
        refine ab_go ok_Mo_restore 4 rfl ?_
        show ab_Z m_Mo_restore _ _ _ 35 [_, _, _] [_] _
        have fin : Po (some (.int 1)) (HA fm X (slG s w) t) := by
          rw [← hPo]
          exact ⟨by rw [bI_t ⟨hx, h2'⟩], by rw [if_pos ⟨hx, h2'⟩]⟩
        unfold slG at fin
        exact ab_rZ ok_Mo_restore rfl (by first | decide | exact bB_01 _ | exact bI_01 _) (fin)
      · intro k hk ih
        refine ab_go ok_Mo_restore 2 rfl ?_
        show ab_Z m_Mo_restore _ _ _ 16 [_, _, _] [_, _] _
        refine ab_br ok_Mo_restore rfl rfl ?_ ?_
        · intro h3
          show ab_Z m_Mo_restore _ _ _ 31 [_, _, _] [] _
          exact absurd h3 (lp_in (N := 40) (by decide) hk)
        · intro h3
          show ab_Z m_Mo_restore _ _ _ 17 [_, _, _] [] _
          refine ab_go ok_Mo_restore 10 rfl ?_
          show ab_Z m_Mo_restore _ _ _ 27 [_, _, _] [_, _, _, _] _
          refine ab_ia ok_Mo_restore rfl rfl (k := (40 * w + k)) (by first | rfl | (simp only [LL1, LL2, LL3, LL4, LL5, LL6, LL7, LL8, LL10, LL15, LL18, LL20, LL21, LL22, LL23, LL24, LL32, LL39, LL40, LL130, LL420, pk_mul, nI_add]; done) | (simp only [LL1, LL2, LL3, LL4, LL5, LL6, LL7, LL8, LL10, LL15, LL18, LL20, LL21, LL22, LL23, LL24, LL32, LL39, LL40, LL130, LL420, pk_mul, nI_add]; congr 1; omega)) (by omega) (Nat.le_of_ble_eq_true rfl) ?_
          show ab_Z m_Mo_restore _ _ _ 28 [_, _, _] [_, _, _] _
          rw [show ab_ro s 114 (fillR (s 114) 0 k (fun j => s 128 (40 * w + j))) 128 (40 * w + k) = s 128 (40 * w + k) from by rw [ab_ro_o (by decide)]]
          refine ab_is ok_Mo_restore rfl rfl (k := k) (by first | rfl | (simp only [LL1, LL2, LL3, LL4, LL5, LL6, LL7, LL8, LL10, LL15, LL18, LL20, LL21, LL22, LL23, LL24, LL32, LL39, LL40, LL130, LL420, pk_mul, nI_add]; done) | (simp only [LL1, LL2, LL3, LL4, LL5, LL6, LL7, LL8, LL10, LL15, LL18, LL20, LL21, LL22, LL23, LL24, LL32, LL39, LL40, LL130, LL420, pk_mul, nI_add]; congr 1; omega)) (by omega) (Nat.le_of_ble_eq_true rfl) ?_
          show ab_Z m_Mo_restore _ _ _ 29 [_, _, _] [] _
          rw [ro_up, show upd (fillR (s 114) 0 k (fun j => s 128 (40 * w + j))) k (s 128 (40 * w + k)) = fillR (s 114) 0 (k + 1) (fun j => s 128 (40 * w + j)) from by rw [← fillR_s, Nat.zero_add]]
          refine ab_go ok_Mo_restore 2 rfl ?_
          show ab_Z m_Mo_restore _ _ _ 14 [_, _, _] [] _
          rw [nI_succ] at ih
          exact ih
end

