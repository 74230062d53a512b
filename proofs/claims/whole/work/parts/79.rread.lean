/-! the reference's reader: tokens taken -/
def rkI (r : Nat) : Nat := if r = 0 then 0 else if r = 3 then 1 else if r = 1 then 2 else if r = 2 then 3 else if r = 4 then 59 else if r = 5 then 61 else if r = 6 then 40 else if r = 7 then 41 else if r = 8 then 43 else if r = 9 then 45 else if r = 10 then 42 else if r = 15 then 47 else if r = 13 then 60 else r + 236
def kVb (k : Nat) : Bool := decide (k < 4) || sgC k || (decide (256 ≤ k) && decide (k < 277))
theorem kV_lt {k : Nat} (h : kVb k = true) : k < 277 := by
  unfold kVb sgC at h
  simp only [Bool.or_eq_true, Bool.and_eq_true, decide_eq_true_eq] at h
  omega
theorem rk_I0 : ∀ k, k < 277 → kVb k = true → rkI (rkF k) = k := by decide +kernel
theorem rk_I {k : Nat} (h : kVb k = true) : rkI (rkF k) = k := rk_I0 k (kV_lt h) h
theorem rk_eq {k w : Nat} (h : kVb k = true) (g : kVb w = true) : rkF k = rkF w ↔ k = w := ⟨fun z => by rw [← rk_I h, ← rk_I g, z], fun z => by rw [z]⟩
theorem rk_lt0 : ∀ k, k < 277 → rkF k < 41 := by decide +kernel
theorem rk_lt (k : Nat) (h : kVb k = true) : rkF k < 41 := rk_lt0 k (kV_lt h)
/-- what a reader may take for given of tokens -/
def TM (s : Nat → Nat → Int32) (t : Nat → Nat → Int64) (K P v : Nat → Nat) (nm : Nat → List Nat) : Prop := (∀ n, gdT K n → s 84 n = nI (rkF (K n)) ∧ s 85 n = nI (P n) ∧ (K n = 3 → s 86 n = nI (v n)) ∧ (K n = 2 → t 87 n = lN (cdL 27 (nm n)))) ∧ TkW K v nm ∧ (∀ n, kVb (K n) = true) ∧ (∀ n, gdT K n → P n ≤ 2000) ∧ ∀ m n, m < n → gdT K n → P m < P n
theorem TM.of {s s' : Nat → Nat → Int32} {t t' : Nat → Nat → Int64} {K P v : Nat → Nat} {nm : Nat → List Nat} (h4 : s' 84 = s 84) (h5 : s' 85 = s 85) (h6 : s' 86 = s 86) (h7 : t' 87 = t 87) (h : TM s t K P v nm) : TM s' t' K P v nm := by
  refine ⟨fun n hn => ?_, h.2⟩
  rw [h4, h5, h6, h7]
  exact h.1 n hn
def KJ (s s' : Nat → Nat → Int32) : Prop := ∀ c k, ¬ (c = 81 ∧ (k = 11 ∨ k = 13 ∨ k = 14)) → s' c k = s c k
def KN (s s' : Nat → Nat → Int32) : Prop := ∀ c k, ¬ (c = 81 ∧ (k = 11 ∨ k = 13 ∨ k = 14 ∨ k = 15 ∨ k = 16)) → s' c k = s c k
theorem KJ.rf (s : Nat → Nat → Int32) : KJ s s := fun _ _ _ => rfl
theorem KJ.tr {a b c : Nat → Nat → Int32} (h : KJ a b) (g : KJ b c) : KJ a c := fun x k p => (g x k p).trans (h x k p)
theorem KJ.n {a b : Nat → Nat → Int32} (h : KJ a b) : KN a b := fun x k p => h x k (fun z => p ⟨z.1, by omega⟩)
theorem KN.rf (s : Nat → Nat → Int32) : KN s s := fun _ _ _ => rfl
theorem KN.tr {a b c : Nat → Nat → Int32} (h : KN a b) (g : KN b c) : KN a c := fun x k p => (g x k p).trans (h x k p)
theorem KJ.u {a b : Nat → Nat → Int32} {k : Nat} {x : Int32} (hk : k = 11 ∨ k = 13 ∨ k = 14) (h : KJ a b) : KJ a (ab_up b 81 k x) := fun c j hc => by
  by_cases h8 : c = 81
  · subst h8
    rw [ab_up_n (fun z => hc ⟨rfl, by omega⟩)]
    exact h 81 j hc
  · rw [ab_up_o h8]
    exact h c j hc
theorem KN.row {a b : Nat → Nat → Int32} (h : KN a b) {c : Nat} (hc : c ≠ 81) : b c = a c := funext fun k => h c k (fun z => hc z.1)
theorem KN.T {s s' : Nat → Nat → Int32} {t : Nat → Nat → Int64} {K P v : Nat → Nat} {nm : Nat → List Nat} (h : KN s s') (hT : TM s t K P v nm) : TM s' t K P v nm := hT.of (h.row (by decide)) (h.row (by decide)) (h.row (by decide)) rfl
def RdM (s : Nat → Nat → Int32) (K P : Nat → Nat) (R : Rs Nat) : Prop := match R with
  | .inl t => s 81 11 = nI t ∧ s 81 13 = 0 ∧ gdT K t
  | .inr e => s 81 13 = nI e.1 ∧ s 81 14 = nI (P e.2) ∧ (e.1 = 1 ∨ e.1 = 2) ∧ gdT K e.2 ∧ ∃ n, n ≤ 400 ∧ s 81 11 = nI n
theorem RdM.of {s s' : Nat → Nat → Int32} {K P : Nat → Nat} {R : Rs Nat} (h1 : s' 81 11 = s 81 11) (h2 : s' 81 13 = s 81 13) (h3 : s' 81 14 = s 81 14) (h : RdM s K P R) : RdM s' K P R := by
  unfold RdM at h ⊢
  cases R with
  | inl t => exact ⟨h1.trans h.1, h2.trans h.2.1, h.2.2⟩
  | inr e =>
    obtain ⟨a, b, c, d, n, n1, n2⟩ := h
    exact ⟨h2.trans a, h3.trans b, c, d, n, n1, h1.trans n2⟩
theorem fl_1 {c : Nat} (h : c = 1 ∨ c = 2) : ¬ nI c = 0 ∧ ¬ nI c ≤ 0 ∧ 0 < nI c := by
  rcases h with rfl | rfl <;> decide
theorem RdM.pos {s : Nat → Nat → Int32} {K P : Nat → Nat} {R : Rs Nat} (h : RdM s K P R) : ∃ n, n ≤ 400 ∧ s 81 11 = nI n ∧ ∀ m, R = .inl m → n = m := by
  cases R with
  | inl t => exact ⟨t, h.2.2.1, h.1, fun m hm => by cases hm; rfl⟩
  | inr e =>
    obtain ⟨-, -, -, -, n, n1, n2⟩ := h
    exact ⟨n, n1, n2, fun m hm => by cases hm⟩
def LtM (s : Nat → Nat → Int32) (P : Nat → Nat) (l : Nat × Nat) : Prop := s 81 15 = nI l.1 ∧ l.1 ≤ 5 ∧ (l.1 ≠ 0 → s 81 16 = nI (P l.2))
theorem LtM.of {s s' : Nat → Nat → Int32} {P : Nat → Nat} {l : Nat × Nat} (h4 : s' 81 15 = s 81 15) (h5 : s' 81 16 = s 81 16) (h : LtM s P l) : LtM s' P l := ⟨h4.trans h.1, h.2.1, fun q => h5.trans (h.2.2 q)⟩
theorem KJ.lt {s s' : Nat → Nat → Int32} {P : Nat → Nat} {l : Nat × Nat} (h : KJ s s') (hl : LtM s P l) : LtM s' P l := hl.of (h 81 15 (by omega)) (h 81 16 (by omega))
abbrev LtQ (l : Nat × Nat) (t : Nat) : Prop := l.1 ≠ 0 → l.2 < t
def isK (K : Nat → Nat) (R : Rs Nat) (w : Nat) : Bool := match R with
  | .inl n => decide (K n = w)
  | .inr _ => false
section
variable (d : Nat) (fm : Value) (X : Nat × (Nat → Int32)) (s : Nat → Nat → Int32) (t : Nat → Nat → Int64)
variable {K P v : Nat → Nat} {nm : Nat → List Nat}
theorem t_Mo_is (hT : TM s t K P v nm) {R : Rs Nat} (hR : RdM s K P R) {w : Nat} (hw : kVb w = true) (z : Int32) (hz : z = nI (rkF w)) : ab_T g_Mo_is d (0, 0) [.ref 81, .int z] (HA fm X s t) (PI (bB (isK K R w)) (HA fm X s t)) := by
  subst hz
  cases R with
  | inr e =>
    obtain ⟨a1, a2, a3, a4⟩ := hR
    refine ab_T_of (M := m_Mo_is) rfl rfl (Nat.le_of_ble_eq_true rfl) ?_
    show ab_Z m_Mo_is _ _ _ 0 [_, _] [] _
    refine ab_go ok_Mo_is 2 rfl ?_
    show ab_Z m_Mo_is _ _ _ 2 [_, _] [_] _
    rw [a1]
    refine ab_br ok_Mo_is rfl rfl ?_ ?_
    · intro h1
      show ab_Z m_Mo_is _ _ _ 3 [_, _] [] _
      exact absurd h1 (fl_1 a3).1
    · intro h1
      show ab_Z m_Mo_is _ _ _ 12 [_, _] [] _
      refine ab_go ok_Mo_is 1 rfl ?_
      show ab_Z m_Mo_is _ _ _ 13 [_, _] [_] _
      exact ab_rZ ok_Mo_is rfl (by first | decide | exact bB_01 _ | exact bI_01 _) (⟨rfl, rfl⟩)
  | inl n =>
    obtain ⟨a1, a2, a3⟩ := hR
    have hkn := hT.2.2.1 n
    have e := rk_eq hkn hw
    have l1 := rk_lt _ hkn
    have l2 := rk_lt _ hw
    have hn := a3.1
    refine ab_T_of (M := m_Mo_is) rfl rfl (Nat.le_of_ble_eq_true rfl) ?_
    show ab_Z m_Mo_is _ _ _ 0 [_, _] [] _
    refine ab_go ok_Mo_is 2 rfl ?_
    show ab_Z m_Mo_is _ _ _ 2 [_, _] [_] _
    rw [a2]
    refine ab_go ok_Mo_is 1 rfl ?_
    show ab_Z m_Mo_is _ _ _ 3 [_, _] [] _
    refine ab_go ok_Mo_is 4 rfl ?_
    show ab_Z m_Mo_is _ _ _ 7 [_, _] [_, _] _
    rw [a1]
    refine ab_ia ok_Mo_is rfl rfl (k := n) (by first | rfl | (simp only [LL1, LL2, LL3, LL4, LL5, LL6, LL7, LL8, LL10, LL15, LL18, LL20, LL21, LL22, LL23, LL24, LL32, LL39, LL40, LL130, LL420, pk_mul, nI_add]; done) | (simp only [LL1, LL2, LL3, LL4, LL5, LL6, LL7, LL8, LL10, LL15, LL18, LL20, LL21, LL22, LL23, LL24, LL32, LL39, LL40, LL130, LL420, pk_mul, nI_add]; congr 1; omega)) (by omega) (Nat.le_of_ble_eq_true rfl) ?_
    show ab_Z m_Mo_is _ _ _ 8 [_, _] [_] _
    rw [(hT.1 n a3).1]
    refine ab_go ok_Mo_is 1 rfl ?_
    show ab_Z m_Mo_is _ _ _ 9 [_, _] [_, _] _
    refine ab_br ok_Mo_is rfl rfl ?_ ?_
    · intro h1
      show ab_Z m_Mo_is _ _ _ 10 [_, _] [] _
      have h1' := e.mp ((nI_eq (by omega) (by omega)).mp h1)
      refine ab_go ok_Mo_is 2 rfl ?_
      show ab_Z m_Mo_is _ _ _ 13 [_, _] [_] _
      exact ab_rZ ok_Mo_is rfl (by first | decide | exact bB_01 _ | exact bI_01 _) (⟨by rw [show isK K (.inl n) w = true from decide_eq_true h1']; rfl, rfl⟩)
    · intro h1
      show ab_Z m_Mo_is _ _ _ 12 [_, _] [] _
      have h1' : ¬ K n = w := fun z => h1 (by rw [z])
      refine ab_go ok_Mo_is 1 rfl ?_
      show ab_Z m_Mo_is _ _ _ 13 [_, _] [_] _
      exact ab_rZ ok_Mo_is rfl (by first | decide | exact bB_01 _ | exact bI_01 _) (⟨by rw [show isK K (.inl n) w = false from decide_eq_false h1']; rfl, rfl⟩)
theorem t_Mo_fail (hT : TM s t K P v nm) {R : Rs Nat} (hR : RdM s K P R) {c : Nat} (hc : c = 1 ∨ c = 2) (z : Int32) (hz : z = nI c) : ab_T g_Mo_fail d (0, 0) [.ref 81, .int z] (HA fm X s t) (fun r h => r = none ∧ ∃ s', h = HA fm X s' t ∧ KJ s s' ∧ RdM s' K P (bnd R fun n => .inr (c, n)) ∧ s' 81 11 = s 81 11) := by
  subst hz
  cases R with
  | inr e =>
    obtain ⟨a1, a2, a3, a4⟩ := hR
    refine ab_T_of (M := m_Mo_fail) rfl rfl (Nat.le_of_ble_eq_true rfl) ?_
    show ab_Z m_Mo_fail _ _ _ 0 [_, _] [] _
    refine ab_go ok_Mo_fail 2 rfl ?_
    show ab_Z m_Mo_fail _ _ _ 2 [_, _] [_] _
    rw [a1]
    refine ab_br ok_Mo_fail rfl rfl ?_ ?_
    · intro h1
      show ab_Z m_Mo_fail _ _ _ 4 [_, _] [] _
      exact absurd h1 (fl_1 a3).2.1
    · intro h1
      show ab_Z m_Mo_fail _ _ _ 3 [_, _] [] _
      exact ab_rV ok_Mo_fail rfl (⟨rfl, s, rfl, KJ.rf s, ⟨a1, a2, a3, a4⟩, rfl⟩)
  | inl n =>
    obtain ⟨a1, a2, a3⟩ := hR
    have hn := a3.1
    refine ab_T_of (M := m_Mo_fail) rfl rfl (Nat.le_of_ble_eq_true rfl) ?_
    show ab_Z m_Mo_fail _ _ _ 0 [_, _] [] _
    refine ab_go ok_Mo_fail 2 rfl ?_
    show ab_Z m_Mo_fail _ _ _ 2 [_, _] [_] _
    rw [a2]
    refine ab_go ok_Mo_fail 1 rfl ?_
    show ab_Z m_Mo_fail _ _ _ 4 [_, _] [] _
    refine ab_go ok_Mo_fail 8 rfl ?_
    show ab_Z m_Mo_fail _ _ _ 12 [_, _] [_, _, _] _
    rw [show ab_up s 81 13 (nI c) 81 11 = nI n from by rw [ab_up_n (by decide)]; exact a1]
    refine ab_ia ok_Mo_fail rfl rfl (k := n) (by first | rfl | (simp only [LL1, LL2, LL3, LL4, LL5, LL6, LL7, LL8, LL10, LL15, LL18, LL20, LL21, LL22, LL23, LL24, LL32, LL39, LL40, LL130, LL420, pk_mul, nI_add]; done) | (simp only [LL1, LL2, LL3, LL4, LL5, LL6, LL7, LL8, LL10, LL15, LL18, LL20, LL21, LL22, LL23, LL24, LL32, LL39, LL40, LL130, LL420, pk_mul, nI_add]; congr 1; omega)) (by omega) (Nat.le_of_ble_eq_true rfl) ?_
    show ab_Z m_Mo_fail _ _ _ 13 [_, _] [_, _] _
    rw [show ab_up s 81 13 (nI c) 85 n = nI (P n) from by rw [ab_up_o (by decide)]; exact (hT.1 n a3).2.1]
    refine ab_go ok_Mo_fail 1 rfl ?_
    show ab_Z m_Mo_fail _ _ _ 14 [_, _] [] _
    have hk : KJ s (ab_up (ab_up s 81 13 (nI c)) 81 14 (nI (P n))) := KJ.u (by omega) (KJ.u (by omega) (KJ.rf s))
    have h11 : ab_up (ab_up s 81 13 (nI c)) 81 14 (nI (P n)) 81 11 = s 81 11 := by rw [ab_up_n (by decide), ab_up_n (by decide)]
    exact ab_rV ok_Mo_fail rfl (⟨rfl, _, rfl, hk, ⟨by rw [ab_up_n (by decide), ab_up_s], ab_up_s .., hc, a3, n, hn, h11.trans a1⟩, h11⟩)
theorem t_Mo_goesOn (hT : TM s t K P v nm) {R : Rs Nat} (hR : RdM s K P R) (hk : ∀ n, R = .inl n → K n ≠ 0 ∧ K n ≠ 1) : ab_T g_Mo_goesOn (d + 1) (0, 0) [.ref 81] (HA fm X s t) (fun r h => r = none ∧ ∃ s', h = HA fm X s' t ∧ KJ s s' ∧ RdM s' K P (bnd R goT)) := by
  obtain ⟨m, m1, m2, m3⟩ := hR.pos
  refine ab_T_of (M := m_Mo_goesOn) rfl rfl (Nat.le_of_ble_eq_true rfl) ?_
  show ab_Z m_Mo_goesOn _ _ _ 0 [_] [] _
  refine ab_go ok_Mo_goesOn 3 rfl ?_
  show ab_Z m_Mo_goesOn _ _ _ 3 [_] [_, _] _
  rw [m2]
  refine ab_br ok_Mo_goesOn rfl rfl ?_ ?_
  · intro h1
    show ab_Z m_Mo_goesOn _ _ _ 4 [_] [] _
    have h1' := (nI_eq (show m < 2 ^ 31 by omega) (show 400 < 2 ^ 31 by decide)).mp h1
    refine ab_go ok_Mo_goesOn 2 rfl ?_
    show ab_Z m_Mo_goesOn _ _ _ 6 [_] [_, _] _
    refine ab_cl ok_Mo_goesOn rfl [_, _] [] rfl ⟨_, _, rfl, rfl, Or.inl ⟨_, _, rfl, rfl⟩⟩ (Nat.le_of_ble_eq_true rfl) (t_Mo_fail d fm X s t hT hR (c := 2) (by omega) _ rfl) ?_
    rintro _ _ ⟨rfl, s1, rfl, k1, hR1, -⟩
    show ab_Z m_Mo_goesOn _ _ _ 7 [_] [] _
    refine ab_go ok_Mo_goesOn 1 rfl ?_
    show ab_Z m_Mo_goesOn _ _ _ 14 [_] [] _
    have hb : bnd R goT = bnd R fun n => .inr (2, n) := bnd_cg (fun n hn => by
      have := m3 n hn
      unfold goT
      rw [if_neg (by omega)])
    rw [hb]
    exact ab_rV ok_Mo_goesOn rfl (⟨rfl, s1, rfl, k1, hR1⟩)
  · intro h1
    show ab_Z m_Mo_goesOn _ _ _ 8 [_] [] _
    have h1' : m < 400 := by
      have : ¬ m = 400 := fun z => h1 (by rw [z]; rfl)
      omega
    refine ab_go ok_Mo_goesOn 6 rfl ?_
    show ab_Z m_Mo_goesOn _ _ _ 14 [_] [] _
    rw [m2]
    have hu : KJ s (ab_up s 81 11 (nI m + 1)) := KJ.u (by omega) (KJ.rf s)
    have hR1 : RdM (ab_up s 81 11 (nI m + 1)) K P (bnd R goT) := by
      cases R with
      | inr e =>
        obtain ⟨a1, a2, a3, a4, -⟩ := hR
        exact ⟨by rw [ab_up_n (by decide)]; exact a1, by rw [ab_up_n (by decide)]; exact a2, a3, a4, m + 1, by omega, by rw [ab_up_s, nI_succ]⟩
      | inl n =>
        have := m3 n rfl
        subst this
        rw [bnd_l]
        unfold goT
        rw [if_pos h1']
        exact ⟨by rw [ab_up_s, nI_succ], by rw [ab_up_n (by decide)]; exact hR.2.1, gd_s hR.2.2 h1' (hk m rfl).1 (hk m rfl).2⟩
    exact ab_rV ok_Mo_goesOn rfl (⟨rfl, _, rfl, hu, hR1⟩)
theorem t_Mo_must (hT : TM s t K P v nm) {R : Rs Nat} (hR : RdM s K P R) {w : Nat} (hw2 : 2 ≤ w) (hw : kVb w = true) (z : Int32) (hz : z = nI (rkF w)) : ab_T g_Mo_must (d + 2) (0, 0) [.ref 81, .int z] (HA fm X s t) (fun r h => r = none ∧ ∃ s', h = HA fm X s' t ∧ KJ s s' ∧ RdM s' K P (bnd R (eatT K w))) := by
  refine ab_T_of (M := m_Mo_must) rfl rfl (Nat.le_of_ble_eq_true rfl) ?_
  show ab_Z m_Mo_must _ _ _ 0 [_, _] [] _
  refine ab_go ok_Mo_must 2 rfl ?_
  show ab_Z m_Mo_must _ _ _ 2 [_, _] [_, _] _
  refine ab_cl ok_Mo_must rfl [_, _] [] rfl ⟨_, _, rfl, rfl, Or.inl ⟨_, _, rfl, rfl⟩⟩ (Nat.le_of_ble_eq_true rfl) (t_Mo_is (d + 1) fm X s t hT hR hw _ hz) ?_
  rintro _ _ ⟨rfl, rfl⟩
  show ab_Z m_Mo_must _ _ _ 3 [_, _] [_] _
  refine ab_br ok_Mo_must rfl rfl ?_ ?_
  · intro h1
    show ab_Z m_Mo_must _ _ _ 7 [_, _] [] _
    have h1' := bB_0.mp h1
    refine ab_go ok_Mo_must 2 rfl ?_
    show ab_Z m_Mo_must _ _ _ 9 [_, _] [_, _] _
    refine ab_cl ok_Mo_must rfl [_, _] [] rfl ⟨_, _, rfl, rfl, Or.inl ⟨_, _, rfl, rfl⟩⟩ (Nat.le_of_ble_eq_true rfl) (t_Mo_fail (d + 1) fm X s t hT hR (c := 1) (by omega) _ rfl) ?_
    rintro _ _ ⟨rfl, s1, rfl, k1, hR1, -⟩
    show ab_Z m_Mo_must _ _ _ 10 [_, _] [] _
    have hb : bnd R (eatT K w) = bnd R fun n => .inr (1, n) := bnd_cg (fun n hn => by
      rw [hn] at h1'
      unfold eatT
      rw [if_neg (of_decide_eq_false h1')])
    rw [hb]
    exact ab_rV ok_Mo_must rfl (⟨rfl, s1, rfl, k1, hR1⟩)
  · intro h1
    show ab_Z m_Mo_must _ _ _ 4 [_, _] [] _
    have h1' := bB_n0 h1
    have hK : ∀ n, R = .inl n → K n = w := fun n hn => by
      rw [hn] at h1'
      exact of_decide_eq_true h1'
    refine ab_go ok_Mo_must 1 rfl ?_
    show ab_Z m_Mo_must _ _ _ 5 [_, _] [_] _
    refine ab_cl ok_Mo_must rfl [_] [] rfl ⟨_, _, rfl, rfl, Or.inl ⟨_, _, rfl, rfl⟩⟩ (Nat.le_of_ble_eq_true rfl) (t_Mo_goesOn d fm X s t hT hR (fun n hn => by rw [hK n hn]; omega)) ?_
    rintro _ _ ⟨rfl, s1, rfl, k1, hR1⟩
    show ab_Z m_Mo_must _ _ _ 6 [_, _] [] _
    refine ab_go ok_Mo_must 1 rfl ?_
    show ab_Z m_Mo_must _ _ _ 10 [_, _] [] _
    have hb : bnd R (eatT K w) = bnd R goT := bnd_cg (fun n hn => by
      unfold eatT
      rw [if_pos (hK n hn)])
    rw [hb]
    exact ab_rV ok_Mo_must rfl (⟨rfl, s1, rfl, k1, hR1⟩)
theorem t_Mo_wrong (hT : TM s t K P v nm) (h13 : s 81 13 = 0) {n : Nat} (hg : gdT K n) {l : Nat × Nat} (hl : LtM s P l) {c : Nat} (hc : 1 ≤ c) (hc5 : c ≤ 5) (hlq : l.1 ≠ 0 → l.2 < n ∨ l.2 = n ∧ l.1 ≤ c) (z y : Int32) (hz : z = nI c) (hy : y = nI n) : ab_T g_Mo_wrong d (0, 0) [.ref 81, .int z, .int y] (HA fm X s t) (fun r h => r = none ∧ ∃ s', h = HA fm X s' t ∧ (∀ c k, ¬ (c = 81 ∧ (k = 15 ∨ k = 16)) → s' c k = s c k) ∧ LtM s' P (ltU l c n)) := by
  subst hz hy
  obtain ⟨a1, a2, a3⟩ := hl
  have hn := hg.1
  have hp := hT.2.2.2.1 n hg
  refine ab_T_of (M := m_Mo_wrong) rfl rfl (Nat.le_of_ble_eq_true rfl) ?_
  show ab_Z m_Mo_wrong _ _ _ 0 [_, _, _, _] [] _
  refine ab_go ok_Mo_wrong 3 rfl ?_
  show ab_Z m_Mo_wrong _ _ _ 3 [_, _, _, _] [_, _] _
  refine ab_ia ok_Mo_wrong rfl rfl (k := n) (by first | rfl | (simp only [LL1, LL2, LL3, LL4, LL5, LL6, LL7, LL8, LL10, LL15, LL18, LL20, LL21, LL22, LL23, LL24, LL32, LL39, LL40, LL130, LL420, pk_mul, nI_add]; done) | (simp only [LL1, LL2, LL3, LL4, LL5, LL6, LL7, LL8, LL10, LL15, LL18, LL20, LL21, LL22, LL23, LL24, LL32, LL39, LL40, LL130, LL420, pk_mul, nI_add]; congr 1; omega)) (by omega) (Nat.le_of_ble_eq_true rfl) ?_
  show ab_Z m_Mo_wrong _ _ _ 4 [_, _, _, _] [_] _
  rw [(hT.1 n hg).2.1]
  refine ab_go ok_Mo_wrong 3 rfl ?_
  show ab_Z m_Mo_wrong _ _ _ 7 [_, _, _, _] [_] _
  rw [h13]
  refine ab_go ok_Mo_wrong 1 rfl ?_
  show ab_Z m_Mo_wrong _ _ _ 8 [_, _, _, _] [] _
  refine ab_go ok_Mo_wrong 2 rfl ?_
  show ab_Z m_Mo_wrong _ _ _ 10 [_, _, _, _] [_] _
  rw [a1]
  have stay : l.1 ≠ 0 → ∃ s', HA fm X s t = HA fm X s' t ∧ (∀ c k, ¬ (c = 81 ∧ (k = 15 ∨ k = 16)) → s' c k = s c k) ∧ LtM s' P (ltU l c n) := fun h0 => by
    unfold ltU
    rw [if_neg h0]
    exact ⟨s, rfl, fun _ _ _ => rfl, a1, a2, a3⟩
  refine ab_br ok_Mo_wrong rfl rfl ?_ ?_
  · intro h1
    show ab_Z m_Mo_wrong _ _ _ 24 [_, _, _, _] [] _
    have h0 : l.1 = 0 := (nI_z (by omega)).mp h1
    refine ab_go ok_Mo_wrong 6 rfl ?_
    show ab_Z m_Mo_wrong _ _ _ 30 [_, _, _, _] [] _
    have hk : ∀ x k, ¬ (x = 81 ∧ (k = 15 ∨ k = 16)) → ab_up (ab_up s 81 15 (nI c)) 81 16 (nI (P n)) x k = s x k := fun x k hx => by
      by_cases h8 : x = 81
      · subst h8
        rw [ab_up_n (fun z => hx ⟨rfl, by omega⟩), ab_up_n (fun z => hx ⟨rfl, by omega⟩)]
      · rw [ab_up_o h8, ab_up_o h8]
    have hlt : LtM (ab_up (ab_up s 81 15 (nI c)) 81 16 (nI (P n))) P (ltU l c n) := by
      unfold ltU
      rw [if_pos h0]
      exact ⟨by rw [ab_up_n (by decide), ab_up_s], hc5, fun _ => ab_up_s ..⟩
    exact ab_rV ok_Mo_wrong rfl (⟨rfl, _, rfl, hk, hlt⟩)
  · intro h1
    show ab_Z m_Mo_wrong _ _ _ 11 [_, _, _, _] [] _
    have h0 : ¬ l.1 = 0 := fun z => h1 (by rw [z]; rfl)
    refine ab_go ok_Mo_wrong 3 rfl ?_
    show ab_Z m_Mo_wrong _ _ _ 14 [_, _, _, _] [_, _] _
    rw [a3 h0]
    refine ab_br ok_Mo_wrong rfl rfl ?_ ?_
    · intro h2
      show ab_Z m_Mo_wrong _ _ _ 23 [_, _, _, _] [] _
      exact ab_rV ok_Mo_wrong rfl (⟨rfl, stay h0⟩)
    · intro h2
      show ab_Z m_Mo_wrong _ _ _ 15 [_, _, _, _] [] _
      have hpl := hT.2.2.2.1 l.2 (gd_le hg (by rcases hlq h0 with h | h <;> omega))
      have h2' : ¬ P l.2 < P n := fun z => h2 ((nI_ltI (by omega) (by omega)).mpr z)
      have h3 : l.2 = n ∧ l.1 ≤ c := by
        rcases hlq h0 with h | h
        · exact absurd (hT.2.2.2.2 _ _ h hg) h2'
        · exact h
      refine ab_go ok_Mo_wrong 3 rfl ?_
      show ab_Z m_Mo_wrong _ _ _ 18 [_, _, _, _] [_, _] _
      rw [a3 h0, h3.1]
      refine ab_br ok_Mo_wrong rfl rfl ?_ ?_
      · intro h4
        show ab_Z m_Mo_wrong _ _ _ 19 [_, _, _, _] [] _
        refine ab_go ok_Mo_wrong 3 rfl ?_
        show ab_Z m_Mo_wrong _ _ _ 22 [_, _, _, _] [_, _] _
        rw [a1]
        refine ab_br ok_Mo_wrong rfl rfl ?_ ?_
        · intro h5
          show ab_Z m_Mo_wrong _ _ _ 24 [_, _, _, _] [] _
          exact absurd ((nI_ltI (show c < 2 ^ 31 by omega) (show l.1 < 2 ^ 31 by omega)).mp h5) (by omega)
        · intro h5
          show ab_Z m_Mo_wrong _ _ _ 23 [_, _, _, _] [] _
          exact ab_rV ok_Mo_wrong rfl (⟨rfl, stay h0⟩)
      · intro h4
        show ab_Z m_Mo_wrong _ _ _ 24 [_, _, _, _] [] _
        exact absurd rfl h4
theorem t_Mo_bounded (hT : TM s t K P v nm) {R : Rs Nat} (hR : RdM s K P R) {l : Nat × Nat} (hl : LtM s P l) (hlq : ∀ n, R = .inl n → LtQ l n) {m : Nat} (hm : m < 10000) (z : Int32) (hz : z = nI m) : ab_T g_Mo_bounded (d + 2) (0, 0) [.ref 81, .int z] (HA fm X s t) (fun r h => ∃ y s', r = some (.int y) ∧ h = HA fm X s' t ∧ KN s s' ∧ RdM s' K P (mpT Prod.fst (bnd R fun n => intT K v m n l)) ∧ (∃ l', LtM s' P l') ∧ ∀ a, (bnd R fun n => intT K v m n l) = .inl a → y = nI a.2.1 ∧ LtM s' P a.2.2 ∧ LtQ a.2.2 a.1) := by
  subst hz
  have hmp : mpT Prod.fst (bnd R fun n => intT K v m n l) = bnd R (eatT K 3) := by
    cases R with
    | inr e => rfl
    | inl n =>
      show mpT Prod.fst (intT K v m n l) = eatT K 3 n
      unfold intT
      cases eatT K 3 n <;> rfl
  rw [hmp]
  have bad : isK K R 3 = false → ab_Z m_Mo_bounded (d + 2) (0, 0) (fun r h => ∃ y s', r = some (.int y) ∧ h = HA fm X s' t ∧ KN s s' ∧ RdM s' K P (bnd R (eatT K 3)) ∧ (∃ l', LtM s' P l') ∧ ∀ a, (bnd R fun n => intT K v m n l) = .inl a → y = nI a.2.1 ∧ LtM s' P a.2.2 ∧ LtQ a.2.2 a.1) 7 [some (.ref 81), some (.int (nI m)), none] [] (HA fm X s t) := by
    intro h1'
    refine ab_go ok_Mo_bounded 2 rfl ?_
    show ab_Z m_Mo_bounded _ _ _ 9 [_, _, _] [_, _] _
    refine ab_cl ok_Mo_bounded rfl [_, _] [] rfl ⟨_, _, rfl, rfl, Or.inl ⟨_, _, rfl, rfl⟩⟩ (Nat.le_of_ble_eq_true rfl) (t_Mo_fail (d + 1) fm X s t hT hR (c := 1) (by omega) _ rfl) ?_
    rintro _ _ ⟨rfl, s1, rfl, k1, hR1, -⟩
    show ab_Z m_Mo_bounded _ _ _ 10 [_, _, _] [] _
    refine ab_go ok_Mo_bounded 1 rfl ?_
    show ab_Z m_Mo_bounded _ _ _ 11 [_, _, _] [_] _
    have hb : bnd R (eatT K 3) = bnd R fun n => .inr (1, n) := bnd_cg (fun n hn => by
      rw [hn] at h1'
      unfold eatT
      rw [if_neg (of_decide_eq_false h1')])
    have hno : ∀ a, (bnd R fun n => intT K v m n l) ≠ .inl a := fun a ha => by
      obtain ⟨n, e1, e2⟩ := bnd_in ha
      obtain ⟨n1, e3, e4⟩ := bnd_in e2
      rw [e1, bnd_l, bnd_l, e3] at hb
      cases hb
    rw [hb]
    exact ab_rI ok_Mo_bounded rfl (⟨0, s1, rfl, rfl, k1.n, hR1, ⟨l, k1.lt hl⟩, fun a ha => absurd ha (hno a)⟩)
  cases R with
  | inr e =>
    have hR' := hR
    obtain ⟨a1, a2, a3, a4⟩ := hR'
    refine ab_T_of (M := m_Mo_bounded) rfl rfl (Nat.le_of_ble_eq_true rfl) ?_
    show ab_Z m_Mo_bounded _ _ _ 0 [_, _, _] [] _
    refine ab_go ok_Mo_bounded 2 rfl ?_
    show ab_Z m_Mo_bounded _ _ _ 2 [_, _, _] [_] _
    rw [a1]
    refine ab_br ok_Mo_bounded rfl rfl ?_ ?_
    · intro h1
      show ab_Z m_Mo_bounded _ _ _ 7 [_, _, _] [] _
      exact bad rfl
    · intro h1
      show ab_Z m_Mo_bounded _ _ _ 3 [_, _, _] [] _
      exact absurd (fl_1 a3).2.2 h1
  | inl n =>
    have hR' := hR
    obtain ⟨a1, a2, a3⟩ := hR'
    refine ab_T_of (M := m_Mo_bounded) rfl rfl (Nat.le_of_ble_eq_true rfl) ?_
    show ab_Z m_Mo_bounded _ _ _ 0 [_, _, _] [] _
    refine ab_go ok_Mo_bounded 2 rfl ?_
    show ab_Z m_Mo_bounded _ _ _ 2 [_, _, _] [_] _
    rw [a2]
    refine ab_go ok_Mo_bounded 1 rfl ?_
    show ab_Z m_Mo_bounded _ _ _ 3 [_, _, _] [] _
    refine ab_go ok_Mo_bounded 2 rfl ?_
    show ab_Z m_Mo_bounded _ _ _ 5 [_, _, _] [_, _] _
    refine ab_cl ok_Mo_bounded rfl [_, _] [] rfl ⟨_, _, rfl, rfl, Or.inl ⟨_, _, rfl, rfl⟩⟩ (Nat.le_of_ble_eq_true rfl) (t_Mo_is (d + 1) fm X s t hT hR (w := 3) (by decide) _ rfl) ?_
    rintro _ _ ⟨rfl, rfl⟩
    show ab_Z m_Mo_bounded _ _ _ 6 [_, _, _] [_] _
    refine ab_br ok_Mo_bounded rfl rfl ?_ ?_
    · intro h1
      show ab_Z m_Mo_bounded _ _ _ 7 [_, _, _] [] _
      exact bad (bB_0.mp h1)
    · intro h1
      show ab_Z m_Mo_bounded _ _ _ 12 [_, _, _] [] _
      have h1' : K n = 3 := of_decide_eq_true (bB_n0 h1)
      have hv := hT.2.1.2.1 n h1'
      have hn4 := a3.1
      refine ab_go ok_Mo_bounded 4 rfl ?_
      show ab_Z m_Mo_bounded _ _ _ 16 [_, _, _] [_, _] _
      rw [a1]
      refine ab_ia ok_Mo_bounded rfl rfl (k := n) (by first | rfl | (simp only [LL1, LL2, LL3, LL4, LL5, LL6, LL7, LL8, LL10, LL15, LL18, LL20, LL21, LL22, LL23, LL24, LL32, LL39, LL40, LL130, LL420, pk_mul, nI_add]; done) | (simp only [LL1, LL2, LL3, LL4, LL5, LL6, LL7, LL8, LL10, LL15, LL18, LL20, LL21, LL22, LL23, LL24, LL32, LL39, LL40, LL130, LL420, pk_mul, nI_add]; congr 1; omega)) (by omega) (Nat.le_of_ble_eq_true rfl) ?_
      show ab_Z m_Mo_bounded _ _ _ 17 [_, _, _] [_] _
      rw [(hT.1 n a3).2.2.1 h1']
      refine ab_go ok_Mo_bounded 3 rfl ?_
      show ab_Z m_Mo_bounded _ _ _ 20 [_, _, _] [_, _] _
      have fin : ∀ s1, KN s s1 → RdM s1 K P (.inl n) → LtM s1 P (if m < v n then ltU l 5 n else l) → ab_Z m_Mo_bounded (d + 2) (0, 0) (fun r h => ∃ y s', r = some (.int y) ∧ h = HA fm X s' t ∧ KN s s' ∧ RdM s' K P (bnd (.inl n) (eatT K 3)) ∧ (∃ l', LtM s' P l') ∧ ∀ a, (bnd (.inl n) fun n => intT K v m n l) = .inl a → y = nI a.2.1 ∧ LtM s' P a.2.2 ∧ LtQ a.2.2 a.1) 26 [some (.ref 81), some (.int (nI m)), some (.int (nI (v n)))] [] (HA fm X s1 t) := by
        intro s1 k1 hR1 hl1
        refine ab_go ok_Mo_bounded 1 rfl ?_
        show ab_Z m_Mo_bounded _ _ _ 27 [_, _, _] [_] _
        refine ab_cl ok_Mo_bounded rfl [_] [] rfl ⟨_, _, rfl, rfl, Or.inl ⟨_, _, rfl, rfl⟩⟩ (Nat.le_of_ble_eq_true rfl) (t_Mo_goesOn d fm X s1 t (k1.T hT) hR1 (fun j hj => by cases hj; omega)) ?_
        rintro _ _ ⟨rfl, s2, rfl, k2, hR2⟩
        show ab_Z m_Mo_bounded _ _ _ 28 [_, _, _] [] _
        refine ab_go ok_Mo_bounded 1 rfl ?_
        show ab_Z m_Mo_bounded _ _ _ 29 [_, _, _] [_] _
        have he : eatT K 3 n = goT n := by unfold eatT; rw [if_pos h1']
        rw [bnd_l] at hR2 ⊢
        rw [he]
        have hl2 := k2.lt hl1
        have hlQ := hlq n rfl
        have hA : ∀ a, intT K v m n l = .inl a → nI (v n) = nI a.2.1 ∧ LtM s2 P a.2.2 ∧ LtQ a.2.2 a.1 := fun a ha => by
          unfold intT at ha
          obtain ⟨n1, e1, e2⟩ := bnd_in ha
          have := eat_up e1
          cases e2
          refine ⟨rfl, hl2, fun hz => ?_⟩
          dsimp only at hz ⊢
          split
          · unfold ltU
            split
            · exact this
            · have := hlQ (by assumption); omega
          · rename_i h9
            rw [if_neg h9] at hz
            have := hlQ hz; omega
        exact ab_rI ok_Mo_bounded rfl (⟨nI (v n), s2, rfl, rfl, k1.tr k2.n, hR2, ⟨_, hl2⟩, hA⟩)
      refine ab_br ok_Mo_bounded rfl rfl ?_ ?_
      · intro h2
        show ab_Z m_Mo_bounded _ _ _ 26 [_, _, _] [] _
        have h2' := (nI_leI (show v n < 2 ^ 31 by omega) (show m < 2 ^ 31 by omega)).mp h2
        exact fin s (KN.rf s) hR (by rw [if_neg (by omega)]; exact hl)
      · intro h2
        show ab_Z m_Mo_bounded _ _ _ 21 [_, _, _] [] _
        have h2' : m < v n := by
          rcases Nat.lt_or_ge m (v n) with h | h
          · exact h
          · exact absurd ((nI_leI (show v n < 2 ^ 31 by omega) (show m < 2 ^ 31 by omega)).mpr h) h2
        refine ab_go ok_Mo_bounded 4 rfl ?_
        show ab_Z m_Mo_bounded _ _ _ 25 [_, _, _] [_, _, _] _
        rw [a1]
        refine ab_cl ok_Mo_bounded rfl [_, _, _] [] rfl ⟨_, _, rfl, rfl, Or.inl ⟨_, _, rfl, rfl⟩⟩ (Nat.le_of_ble_eq_true rfl) (t_Mo_wrong (d + 1) fm X s t hT a2 a3 hl (c := 5) (by decide) (by decide) (fun z => Or.inl (hlq n rfl z)) _ _ rfl rfl) ?_
        rintro _ _ ⟨rfl, s1, rfl, k1, hl1⟩
        show ab_Z m_Mo_bounded _ _ _ 26 [_, _, _] [] _
        exact fin s1 (fun c k hc => k1 c k (fun z => hc ⟨z.1, by omega⟩)) (hR.of (k1 81 11 (by omega)) (k1 81 13 (by omega)) (k1 81 14 (by omega))) (by rw [if_pos h2']; exact hl1)
end

