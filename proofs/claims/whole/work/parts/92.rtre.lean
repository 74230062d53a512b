def trQ (K : Nat → Nat) (nm : Nat → List Nat) (x : Tx) (n1 : Nat) (l : Nat × Nat) : Rs (Nat × Int32 × Int32 × (Nat × Nat)) := bnd (dnT K nm x n1 l) fun a => bnd (dnT K nm x a.1 a.2.2) fun b => bnd (eatT K 59 b.1) fun m => .inl (m, a.2.1, b.2.1, if a.2.1 = b.2.1 ∧ a.2.1 ≠ -1 then ltU b.2.2 3 a.1 else b.2.2)
theorem deed_neg (x : Tx) (w : List Nat) (h6 : xNd x ≤ 6) : deedX x w < 0 ↔ deedX x w = -1 := by
  have ne : ∀ j, j < 6 → ¬ nI j < 0 ∧ ¬ nI j = -1 := by decide
  unfold deedX
  rcases fstM_or (fun e => decide (xDn x e = w)) (xNd x) 0 with ⟨h1, -⟩ | ⟨j, -, h2, -, h3⟩
  · rw [h1]; decide
  · rw [h3]
    have := ne j (by omega)
    exact ⟨fun z => absurd z this.1, fun z => absurd z this.2⟩
section
variable (d : Nat) (fm : Value) (X : Nat × (Nat → Int32)) (s : Nat → Nat → Int32) (t : Nat → Nat → Int64)
variable {K P v : Nat → Nat} {nm : Nat → List Nat}
theorem t_Mo_toldInt (hT : TM s t K P v nm) {n : Nat} (hR : RdM s K P (.inl n)) (hk : K n ≠ 0 ∧ K n ≠ 1) {l : Nat × Nat} (hl : LtM s P l) (hlq : LtQ l n) {m : Nat} (hm : m < 10000) (z : Int32) (hz : z = nI m) : ab_T g_Mo_toldInt (d + 3) (0, 0) [.ref 81, .int z] (HA fm X s t) (fun r h => ∃ y s', r = some (.int y) ∧ h = HA fm X s' t ∧ KN s s' ∧ RdM s' K P (bnd (mpT Prod.fst (bnd (goT n) fun t1 => intT K v m t1 l)) (eatT K 59)) ∧ ∀ a, (bnd (goT n) fun t1 => intT K v m t1 l) = .inl a → y = nI a.2.1 ∧ LtM s' P a.2.2 ∧ LtQ a.2.2 a.1) := by
  refine ab_T_of (M := m_Mo_toldInt) rfl rfl (Nat.le_of_ble_eq_true rfl) ?_
  show ab_Z m_Mo_toldInt _ _ _ 0 [_, _, _] [] _
  refine ab_go ok_Mo_toldInt 1 rfl ?_
  show ab_Z m_Mo_toldInt _ _ _ 1 [_, _, _] [_] _
  refine ab_cl ok_Mo_toldInt rfl [_] [] rfl ⟨_, _, rfl, rfl, Or.inl ⟨_, _, rfl, rfl⟩⟩ (Nat.le_of_ble_eq_true rfl) (t_Mo_goesOn (d + 1) fm X s t hT hR (fun j hj => by cases hj; exact hk)) ?_
  rintro _ _ ⟨rfl, s1, rfl, k1, hR1⟩
  show ab_Z m_Mo_toldInt _ _ _ 2 [_, _, _] [] _
  rw [bnd_l] at hR1
  refine ab_go ok_Mo_toldInt 2 rfl ?_
  show ab_Z m_Mo_toldInt _ _ _ 4 [_, _, _] [_, _] _
  refine ab_cl ok_Mo_toldInt rfl [_, _] [] rfl ⟨_, _, rfl, rfl, Or.inl ⟨_, _, rfl, rfl⟩⟩ (Nat.le_of_ble_eq_true rfl) (t_Mo_bounded d fm X s1 t (k1.n.T hT) hR1 (k1.lt hl) (fun j hj => by have := (go_1 hj).1; intro z; have := hlq z; omega) hm _ hz) ?_
  rintro _ _ ⟨y, s2, rfl, rfl, k2, hR2, -, hy⟩
  show ab_Z m_Mo_toldInt _ _ _ 5 [_, _, _] [_] _
  refine ab_go ok_Mo_toldInt 3 rfl ?_
  show ab_Z m_Mo_toldInt _ _ _ 8 [_, _, _] [_, _] _
  refine ab_cl ok_Mo_toldInt rfl [_, _] [] rfl ⟨_, _, rfl, rfl, Or.inl ⟨_, _, rfl, rfl⟩⟩ (Nat.le_of_ble_eq_true rfl) (t_Mo_must d fm X s2 t (k2.T (k1.n.T hT)) hR2 (w := 59) (by decide) (by decide) _ rfl) ?_
  rintro _ _ ⟨rfl, s3, rfl, k3, hR3⟩
  show ab_Z m_Mo_toldInt _ _ _ 9 [_, _, _] [] _
  refine ab_go ok_Mo_toldInt 1 rfl ?_
  show ab_Z m_Mo_toldInt _ _ _ 10 [_, _, _] [_] _
  exact ab_rI ok_Mo_toldInt rfl (⟨y, s3, rfl, rfl, (k1.n.tr k2).tr k3.n, hR3, fun a ha => ⟨(hy a ha).1, k3.lt (hy a ha).2.1, (hy a ha).2.2⟩⟩)
theorem t_Mo_tellTreaty (hT : TM s t K P v nm) {n1 sd : Nat} (hR : RdM s K P (.inl n1)) (h19 : s 81 19 = nI sd) (hs2 : sd < 2) {l : Nat × Nat} (hl : LtM s P l) (hlq : LtQ l n1) {x : Tx} (hN : NmM s t x) (h11 : xNc x + xNd x ≤ 11) (h6 : xNd x ≤ 6) {q : Nat} (hnt : s 97 sd = nI q) (hq6 : q < 6) : ab_T g_Mo_tellTreaty (d + 4) (0, 0) [.ref 81] (HA fm X s t) (fun r h => r = none ∧ ∃ s', h = HA fm X s' t ∧ (∀ c k, ¬ (c = 81 ∧ (k = 11 ∨ k = 13 ∨ k = 14 ∨ k = 15 ∨ k = 16)) → ¬ (c = 97 ∧ k = sd) → ¬ ((c = 98 ∨ c = 99) ∧ k = 6 * sd + q) → s' c k = s c k) ∧ RdM s' K P (mpT Prod.fst (trQ K nm x n1 l)) ∧ ∀ a, trQ K nm x n1 l = .inl a → s' 97 sd = nI (q + 1) ∧ s' 98 (6 * sd + q) = a.2.1 ∧ s' 99 (6 * sd + q) = a.2.2.1 ∧ LtM s' P a.2.2.2 ∧ LtQ a.2.2.2 a.1) := by
  generalize hPo : (fun r h => r = none ∧ ∃ s', h = HA fm X s' t ∧ (∀ c k, ¬ (c = 81 ∧ (k = 11 ∨ k = 13 ∨ k = 14 ∨ k = 15 ∨ k = 16)) → ¬ (c = 97 ∧ k = sd) → ¬ ((c = 98 ∨ c = 99) ∧ k = 6 * sd + q) → s' c k = s c k) ∧ RdM s' K P (mpT Prod.fst (trQ K nm x n1 l)) ∧ ∀ a, trQ K nm x n1 l = .inl a → s' 97 sd = nI (q + 1) ∧ s' 98 (6 * sd + q) = a.2.1 ∧ s' 99 (6 * sd + q) = a.2.2.1 ∧ LtM s' P a.2.2.2 ∧ LtQ a.2.2.2 a.1 : Option Value → ab_H → Prop) = Po
  refine ab_T_of (M := m_Mo_tellTreaty) rfl rfl (Nat.le_of_ble_eq_true rfl) ?_
  show ab_Z m_Mo_tellTreaty _ _ _ 0 [_, _, _] [] _
  refine ab_go ok_Mo_tellTreaty 8 rfl ?_
  show ab_Z m_Mo_tellTreaty _ _ _ 8 [_, _, _] [_, _, _] _
  rw [h19]
  refine ab_ia ok_Mo_tellTreaty rfl rfl (k := sd) (by first | rfl | (simp only [LL1, LL2, LL3, LL4, LL5, LL6, LL7, LL8, LL10, LL15, LL18, LL20, LL21, LL22, LL23, LL24, LL32, LL39, LL40, LL130, LL420, pk_mul, nI_add]; done) | (simp only [LL1, LL2, LL3, LL4, LL5, LL6, LL7, LL8, LL10, LL15, LL18, LL20, LL21, LL22, LL23, LL24, LL32, LL39, LL40, LL130, LL420, pk_mul, nI_add]; congr 1; omega)) (by omega) (Nat.le_of_ble_eq_true rfl) ?_
  show ab_Z m_Mo_tellTreaty _ _ _ 9 [_, _, _] [_, _] _
  rw [hnt]
  refine ab_go ok_Mo_tellTreaty 6 rfl ?_
  show ab_Z m_Mo_tellTreaty _ _ _ 15 [_, _, _] [_, _, _] _
  rw [show (6 : Int32) * nI sd + nI q = nI (6 * sd + q) from by rw [show (6 : Int32) = nI 6 from rfl, pk_mul, nI_add]]
  refine ab_cl ok_Mo_tellTreaty rfl [_] [_, _] rfl ⟨_, _, rfl, rfl, Or.inl ⟨_, _, rfl, rfl⟩⟩ (Nat.le_of_ble_eq_true rfl) (t_Mo_known d fm X s t hT hR hl (fun m hm => by cases hm; exact hlq) hN h11) ?_
  rintro _ _ ⟨y1, s1, rfl, rfl, k1, hR1, ⟨l1', hl1'⟩, hy1⟩
  show ab_Z m_Mo_tellTreaty _ _ _ 16 [_, _, _] [_, _, _] _
  rw [bnd_l] at hR1 hy1
  refine ab_is ok_Mo_tellTreaty rfl rfl (k := (6 * sd + q)) (by first | rfl | (simp only [LL1, LL2, LL3, LL4, LL5, LL6, LL7, LL8, LL10, LL15, LL18, LL20, LL21, LL22, LL23, LL24, LL32, LL39, LL40, LL130, LL420, pk_mul, nI_add]; done) | (simp only [LL1, LL2, LL3, LL4, LL5, LL6, LL7, LL8, LL10, LL15, LL18, LL20, LL21, LL22, LL23, LL24, LL32, LL39, LL40, LL130, LL420, pk_mul, nI_add]; congr 1; omega)) (by omega) (Nat.le_of_ble_eq_true rfl) ?_
  show ab_Z m_Mo_tellTreaty _ _ _ 17 [_, _, _] [] _
  refine ab_go ok_Mo_tellTreaty 7 rfl ?_
  show ab_Z m_Mo_tellTreaty _ _ _ 24 [_, _, _] [_, _, _] _
  obtain ⟨s2, hs2e⟩ : ∃ s2, s2 = ab_up s1 98 (6 * sd + q) y1 := ⟨_, rfl⟩
  rw [← hs2e]
  have e2 : ∀ c, c ≠ 98 → s2 c = s1 c := fun c hc => by rw [hs2e, ab_up_o hc]
  have hR2 : RdM s2 K P (mpT Prod.fst (dnT K nm x n1 l)) := hR1.of (by rw [e2 81 (by decide)]) (by rw [e2 81 (by decide)]) (by rw [e2 81 (by decide)])
  obtain ⟨m, m1, m2, m3⟩ := hR2.pos
  rw [m2]
  obtain ⟨l1, hl1, hl1e, hl1q⟩ : ∃ l1, LtM s1 P l1 ∧ (∀ a, dnT K nm x n1 l = .inl a → l1 = a.2.2) ∧ ∀ j, mpT Prod.fst (dnT K nm x n1 l) = .inl j → LtQ l1 j := by
    cases hq : dnT K nm x n1 l with
    | inr e => exact ⟨l1', hl1', fun a h => (by cases h), fun a h => (by cases h)⟩
    | inl a => exact ⟨a.2.2, (hy1 a hq).2.1, fun b h => (by cases h; rfl), fun j h => (by cases h; exact (hy1 a hq).2.2)⟩
  have hT2 : TM s2 t K P v nm := (k1.T hT).of (e2 84 (by decide)) (e2 85 (by decide)) (e2 86 (by decide)) rfl
  have hl2 : LtM s2 P l1 := hl1.of (by rw [e2 81 (by decide)]) (by rw [e2 81 (by decide)])
  have hN2 : NmM s2 t x := by
    obtain ⟨L, v1, v2, v3, v4⟩ := k1.nm hN
    exact ⟨L, by rw [e2 81 (by decide)]; exact v1, v2, v3.of (e2 90 (by decide)) rfl, v4⟩
  refine ab_cl ok_Mo_tellTreaty rfl [_] [_, _] rfl ⟨_, _, rfl, rfl, Or.inl ⟨_, _, rfl, rfl⟩⟩ (Nat.le_of_ble_eq_true rfl) (t_Mo_known d fm X s2 t hT2 hR2 hl2 hl1q hN2 h11) ?_
  rintro _ _ ⟨y2, s3, rfl, rfl, k3, hR3, -, hy2⟩
  show ab_Z m_Mo_tellTreaty _ _ _ 25 [_, _, _] [_, _, _] _
  refine ab_is ok_Mo_tellTreaty rfl rfl (k := (6 * sd + q)) (by first | rfl | (simp only [LL1, LL2, LL3, LL4, LL5, LL6, LL7, LL8, LL10, LL15, LL18, LL20, LL21, LL22, LL23, LL24, LL32, LL39, LL40, LL130, LL420, pk_mul, nI_add]; done) | (simp only [LL1, LL2, LL3, LL4, LL5, LL6, LL7, LL8, LL10, LL15, LL18, LL20, LL21, LL22, LL23, LL24, LL32, LL39, LL40, LL130, LL420, pk_mul, nI_add]; congr 1; omega)) (by omega) (Nat.le_of_ble_eq_true rfl) ?_
  show ab_Z m_Mo_tellTreaty _ _ _ 26 [_, _, _] [] _
  refine ab_go ok_Mo_tellTreaty 2 rfl ?_
  show ab_Z m_Mo_tellTreaty _ _ _ 28 [_, _, _] [_] _
  obtain ⟨s4, hs4e⟩ : ∃ s4, s4 = ab_up s3 99 (6 * sd + q) y2 := ⟨_, rfl⟩
  rw [← hs4e]
  have e4 : ∀ c, c ≠ 99 → s4 c = s3 c := fun c hc => by rw [hs4e, ab_up_o hc]
  have kk4 : ∀ c k, ¬ (c = 81 ∧ (k = 11 ∨ k = 13 ∨ k = 14 ∨ k = 15 ∨ k = 16)) → ¬ ((c = 98 ∨ c = 99) ∧ k = 6 * sd + q) → s4 c k = s c k := fun c k h1 h2 => by
    have h32 := k3 c k h1
    have h10 := k1 c k h1
    by_cases h9 : c = 99
    · subst h9
      rw [hs4e, ab_up_n (fun z => h2 ⟨Or.inr rfl, z⟩), h32, e2 99 (by decide), h10]
    · rw [e4 c h9, h32]
      by_cases h8 : c = 98
      · subst h8
        rw [hs2e, ab_up_n (fun z => h2 ⟨Or.inl rfl, z⟩), h10]
      · rw [e2 c h8, h10]
  have hspec : ∀ a b, dnT K nm x n1 l = .inl a → dnT K nm x a.1 a.2.2 = .inl b → trQ K nm x n1 l = bnd (eatT K 59 b.1) fun m => .inl (m, a.2.1, b.2.1, if a.2.1 = b.2.1 ∧ a.2.1 ≠ -1 then ltU b.2.2 3 a.1 else b.2.2) := fun a b h1 h2 => by
    unfold trQ
    rw [h1, bnd_l, h2, bnd_l]
  have hR4 : RdM s4 K P (mpT Prod.fst (bnd (mpT Prod.fst (dnT K nm x n1 l)) fun n => dnT K nm x n l1)) := hR3.of (by rw [e4 81 (by decide)]) (by rw [e4 81 (by decide)]) (by rw [e4 81 (by decide)])
  have hT4 : TM s4 t K P v nm := (k3.T hT2).of (e4 84 (by decide)) (e4 85 (by decide)) (e4 86 (by decide)) rfl
  have he98 : s4 98 (6 * sd + q) = y1 := by rw [e4 98 (by decide), k3.row (by decide), hs2e, ab_up_s]
  have he99 : s4 99 (6 * sd + q) = y2 := by rw [hs4e, ab_up_s]
  cases hqa : (bnd (mpT Prod.fst (dnT K nm x n1 l)) fun n => dnT K nm x n l1) with
  | inr e =>
    rw [hqa] at hR4
    have hR4' : RdM s4 K P (.inr e) := hR4
    have hQ : trQ K nm x n1 l = .inr e := by
      unfold trQ
      cases hq : dnT K nm x n1 l with
      | inr e' =>
        rw [hq] at hqa
        cases hqa
        rfl
      | inl a =>
        rw [hq] at hqa
        have hqa' : dnT K nm x a.1 l1 = .inr e := hqa
        rw [hl1e a hq] at hqa'
        rw [bnd_l, hqa']
        rfl
    rw [hR4'.1]
    refine ab_br ok_Mo_tellTreaty rfl rfl ?_ ?_
    · intro h1
      show ab_Z m_Mo_tellTreaty _ _ _ 29 [_, _, _] [] _
      exact absurd h1 (fl_1 hR4'.2.2.1).1
    · intro h1
      show ab_Z m_Mo_tellTreaty _ _ _ 47 [_, _, _] [] _
      refine ab_go ok_Mo_tellTreaty 2 rfl ?_
      show ab_Z m_Mo_tellTreaty _ _ _ 49 [_, _, _] [_, _] _
      refine ab_cl ok_Mo_tellTreaty rfl [_, _] [] rfl ⟨_, _, rfl, rfl, Or.inl ⟨_, _, rfl, rfl⟩⟩ (Nat.le_of_ble_eq_true rfl) (t_Mo_must (d + 1) fm X s4 t hT4 hR4' (w := 59) (by decide) (by decide) _ rfl) ?_
      rintro _ _ ⟨rfl, s5, rfl, k5, hR5⟩
      show ab_Z m_Mo_tellTreaty _ _ _ 50 [_, _, _] [] _
      rw [bnd_r] at hR5
      refine ab_go ok_Mo_tellTreaty 2 rfl ?_
      show ab_Z m_Mo_tellTreaty _ _ _ 52 [_, _, _] [_] _
      rw [hR5.1]
      refine ab_br ok_Mo_tellTreaty rfl rfl ?_ ?_
      · intro h2
        show ab_Z m_Mo_tellTreaty _ _ _ 53 [_, _, _] [] _
        exact absurd h2 (fl_1 hR5.2.2.1).1
      · intro h2
        show ab_Z m_Mo_tellTreaty _ _ _ 62 [_, _, _] [] _
        have fin : Po none (HA fm X s5 t) := by
          rw [← hPo]
          refine ⟨rfl, s5, rfl, fun c k h1 _ h3 => (k5.n c k h1).trans (kk4 c k h1 h3), by rw [hQ]; exact hR5, fun a ha => by rw [hQ] at ha; cases ha⟩
        exact ab_rV ok_Mo_tellTreaty rfl (fin)
  | inl b =>
    rw [hqa] at hR4
    have hR4' : RdM s4 K P (.inl b.1) := hR4
    obtain ⟨j, hj1, hj2⟩ := bnd_in hqa
    obtain ⟨a, ha1, ha2⟩ := bnd_in hj1
    cases ha2
    have hlt1 := (dn_P ha1 (fun z => Nat.le_of_lt (hlq z))).1
    rw [hl1e a ha1] at hj2 hy2
    have hma : m = a.1 := m3 a.1 hj1
    have hya := (hy1 a ha1).1
    have hyb := hy2 b (by rw [hj1, bnd_l]; exact hj2)
    have hb1 := (dn_P hj2 (fun z => Nat.le_of_lt ((hy1 a ha1).2.2 z))).1
    have hda : a.2.1 < 0 ↔ a.2.1 = -1 := by
      have h := ha1
      unfold dnT at h
      obtain ⟨z1, z2, z3⟩ := bnd_in h
      cases z3
      exact deed_neg x _ h6
    have hlb : b.2.1 ≠ -1 → b.2.2 = a.2.2 := fun hne => by
      have h := hj2
      unfold dnT at h
      obtain ⟨z1, z2, z3⟩ := bnd_in h
      cases z3
      exact if_neg hne
    have hga : gdT K a.1 := by
      have := hR2
      rw [hj1] at this
      exact this.2.2
    have hl4 : LtM s4 P b.2.2 := hyb.2.1.of (by rw [e4 81 (by decide)]) (by rw [e4 81 (by decide)])
    have last : ∀ s5 lw, (∀ c k, ¬ (c = 81 ∧ (k = 15 ∨ k = 16)) → s5 c k = s4 c k) → LtM s5 P lw → lw = (if a.2.1 = b.2.1 ∧ a.2.1 ≠ -1 then ltU b.2.2 3 a.1 else b.2.2) → LtQ lw b.1 → ab_Z m_Mo_tellTreaty (d + 4) (0, 0) Po 47 [some (.ref 81), some (.int (nI (6 * sd + q))), some (.int (nI m))] [] (HA fm X s5 t) := by
      intro s5 lw k5 hl5 hlw hlq5
      have r5 : ∀ c, c ≠ 81 → s5 c = s4 c := fun c hc => funext fun k => k5 c k (fun z => hc z.1)
      have hR5 : RdM s5 K P (.inl b.1) := hR4'.of (k5 81 11 (by omega)) (k5 81 13 (by omega)) (k5 81 14 (by omega))
      refine ab_go ok_Mo_tellTreaty 2 rfl ?_
      show ab_Z m_Mo_tellTreaty _ _ _ 49 [_, _, _] [_, _] _
      refine ab_cl ok_Mo_tellTreaty rfl [_, _] [] rfl ⟨_, _, rfl, rfl, Or.inl ⟨_, _, rfl, rfl⟩⟩ (Nat.le_of_ble_eq_true rfl) (t_Mo_must (d + 1) fm X s5 t (hT4.of (r5 84 (by decide)) (r5 85 (by decide)) (r5 86 (by decide)) rfl) hR5 (w := 59) (by decide) (by decide) _ rfl) ?_
      rintro _ _ ⟨rfl, s6, rfl, k6, hR6⟩
      show ab_Z m_Mo_tellTreaty _ _ _ 50 [_, _, _] [] _
      rw [bnd_l] at hR6
      have kk6 : ∀ c k, ¬ (c = 81 ∧ (k = 11 ∨ k = 13 ∨ k = 14 ∨ k = 15 ∨ k = 16)) → ¬ ((c = 98 ∨ c = 99) ∧ k = 6 * sd + q) → s6 c k = s c k := fun c k h1 h2 => (k6.n c k h1).trans ((k5 c k (by omega)).trans (kk4 c k h1 h2))
      have hS := hspec a b ha1 hj2
      refine ab_go ok_Mo_tellTreaty 2 rfl ?_
      show ab_Z m_Mo_tellTreaty _ _ _ 52 [_, _, _] [_] _
      cases hq6' : eatT K 59 b.1 with
      | inr e =>
        rw [hq6'] at hR6 hS
        rw [hR6.1]
        refine ab_br ok_Mo_tellTreaty rfl rfl ?_ ?_
        · intro h2
          show ab_Z m_Mo_tellTreaty _ _ _ 53 [_, _, _] [] _
          exact absurd h2 (fl_1 hR6.2.2.1).1
        · intro h2
          show ab_Z m_Mo_tellTreaty _ _ _ 62 [_, _, _] [] _
          have fin : Po none (HA fm X s6 t) := by
            rw [← hPo]
            refine ⟨rfl, s6, rfl, fun c k h1 _ h3 => kk6 c k h1 h3, by rw [hS]; exact hR6, fun a ha => by rw [hS] at ha; cases ha⟩
          exact ab_rV ok_Mo_tellTreaty rfl (fin)
      | inl n9 =>
        rw [hq6'] at hR6 hS
        have hn9 := eat_up hq6'
        rw [hR6.2.1]
        refine ab_go ok_Mo_tellTreaty 1 rfl ?_
        show ab_Z m_Mo_tellTreaty _ _ _ 53 [_, _, _] [] _
        refine ab_go ok_Mo_tellTreaty 5 rfl ?_
        show ab_Z m_Mo_tellTreaty _ _ _ 58 [_, _, _] [_, _, _, _] _
        rw [kk6 81 19 (by omega) (by omega), h19]
        refine ab_ia ok_Mo_tellTreaty rfl rfl (k := sd) (by first | rfl | (simp only [LL1, LL2, LL3, LL4, LL5, LL6, LL7, LL8, LL10, LL15, LL18, LL20, LL21, LL22, LL23, LL24, LL32, LL39, LL40, LL130, LL420, pk_mul, nI_add]; done) | (simp only [LL1, LL2, LL3, LL4, LL5, LL6, LL7, LL8, LL10, LL15, LL18, LL20, LL21, LL22, LL23, LL24, LL32, LL39, LL40, LL130, LL420, pk_mul, nI_add]; congr 1; omega)) (by omega) (Nat.le_of_ble_eq_true rfl) ?_
        show ab_Z m_Mo_tellTreaty _ _ _ 59 [_, _, _] [_, _, _] _
        rw [kk6 97 sd (by omega) (by omega), hnt]
        refine ab_go ok_Mo_tellTreaty 2 rfl ?_
        show ab_Z m_Mo_tellTreaty _ _ _ 61 [_, _, _] [_, _, _] _
        rw [← nI_succ]
        refine ab_is ok_Mo_tellTreaty rfl rfl (k := sd) (by first | rfl | (simp only [LL1, LL2, LL3, LL4, LL5, LL6, LL7, LL8, LL10, LL15, LL18, LL20, LL21, LL22, LL23, LL24, LL32, LL39, LL40, LL130, LL420, pk_mul, nI_add]; done) | (simp only [LL1, LL2, LL3, LL4, LL5, LL6, LL7, LL8, LL10, LL15, LL18, LL20, LL21, LL22, LL23, LL24, LL32, LL39, LL40, LL130, LL420, pk_mul, nI_add]; congr 1; omega)) (by omega) (Nat.le_of_ble_eq_true rfl) ?_
        show ab_Z m_Mo_tellTreaty _ _ _ 62 [_, _, _] [] _
        have fin : Po none (HA fm X (ab_up s6 97 sd (nI (q + 1))) t) := by
          rw [← hPo]
          refine ⟨rfl, _, rfl, fun c k h1 h2 h3 => ?_, by rw [hS]; exact hR6.of (by rw [ab_up_o (by decide)]) (by rw [ab_up_o (by decide)]) (by rw [ab_up_o (by decide)]), fun w hw => ?_⟩
          · by_cases hc : c = 97
            · subst hc
              rw [ab_up_n (fun z => h2 ⟨rfl, z⟩)]
              exact kk6 97 k h1 h3
            · rw [ab_up_o hc]
              exact kk6 c k h1 h3
          · rw [hS] at hw
            cases hw
            refine ⟨ab_up_s .., ?_, ?_, ?_, ?_⟩
            · rw [ab_up_o (by decide), k6.br 98 (by decide), r5 98 (by decide), he98]; exact hya
            · rw [ab_up_o (by decide), k6.br 99 (by decide), r5 99 (by decide), he99]; exact hyb.1
            · rw [← hlw]
              exact (k6.lt hl5).of (by rw [ab_up_o (by decide)]) (by rw [ab_up_o (by decide)])
            · rw [← hlw]
              exact fun z => by have := hlq5 z; show lw.2 < n9; omega
        exact ab_rV ok_Mo_tellTreaty rfl (fin)
    rw [hR4'.2.1]
    refine ab_go ok_Mo_tellTreaty 1 rfl ?_
    show ab_Z m_Mo_tellTreaty _ _ _ 29 [_, _, _] [] _
    refine ab_go ok_Mo_tellTreaty 3 rfl ?_
    show ab_Z m_Mo_tellTreaty _ _ _ 32 [_, _, _] [_, _] _
    refine ab_ia ok_Mo_tellTreaty rfl rfl (k := (6 * sd + q)) (by first | rfl | (simp only [LL1, LL2, LL3, LL4, LL5, LL6, LL7, LL8, LL10, LL15, LL18, LL20, LL21, LL22, LL23, LL24, LL32, LL39, LL40, LL130, LL420, pk_mul, nI_add]; done) | (simp only [LL1, LL2, LL3, LL4, LL5, LL6, LL7, LL8, LL10, LL15, LL18, LL20, LL21, LL22, LL23, LL24, LL32, LL39, LL40, LL130, LL420, pk_mul, nI_add]; congr 1; omega)) (by omega) (Nat.le_of_ble_eq_true rfl) ?_
    show ab_Z m_Mo_tellTreaty _ _ _ 33 [_, _, _] [_] _
    rw [he98, hya]
    refine ab_br ok_Mo_tellTreaty rfl rfl ?_ ?_
    · intro h1
      show ab_Z m_Mo_tellTreaty _ _ _ 47 [_, _, _] [] _
      have h1' := hda.mp h1
      exact last s4 b.2.2 (fun _ _ _ => rfl) hl4 (by rw [if_neg (fun z => z.2 h1')]) hyb.2.2
    · intro h1
      show ab_Z m_Mo_tellTreaty _ _ _ 34 [_, _, _] [] _
      have h1' : ¬ a.2.1 = -1 := fun z => h1 (hda.mpr z)
      refine ab_go ok_Mo_tellTreaty 3 rfl ?_
      show ab_Z m_Mo_tellTreaty _ _ _ 37 [_, _, _] [_, _] _
      refine ab_ia ok_Mo_tellTreaty rfl rfl (k := (6 * sd + q)) (by first | rfl | (simp only [LL1, LL2, LL3, LL4, LL5, LL6, LL7, LL8, LL10, LL15, LL18, LL20, LL21, LL22, LL23, LL24, LL32, LL39, LL40, LL130, LL420, pk_mul, nI_add]; done) | (simp only [LL1, LL2, LL3, LL4, LL5, LL6, LL7, LL8, LL10, LL15, LL18, LL20, LL21, LL22, LL23, LL24, LL32, LL39, LL40, LL130, LL420, pk_mul, nI_add]; congr 1; omega)) (by omega) (Nat.le_of_ble_eq_true rfl) ?_
      show ab_Z m_Mo_tellTreaty _ _ _ 38 [_, _, _] [_] _
      refine ab_go ok_Mo_tellTreaty 3 rfl ?_
      show ab_Z m_Mo_tellTreaty _ _ _ 41 [_, _, _] [_, _, _] _
      refine ab_ia ok_Mo_tellTreaty rfl rfl (k := (6 * sd + q)) (by first | rfl | (simp only [LL1, LL2, LL3, LL4, LL5, LL6, LL7, LL8, LL10, LL15, LL18, LL20, LL21, LL22, LL23, LL24, LL32, LL39, LL40, LL130, LL420, pk_mul, nI_add]; done) | (simp only [LL1, LL2, LL3, LL4, LL5, LL6, LL7, LL8, LL10, LL15, LL18, LL20, LL21, LL22, LL23, LL24, LL32, LL39, LL40, LL130, LL420, pk_mul, nI_add]; congr 1; omega)) (by omega) (Nat.le_of_ble_eq_true rfl) ?_
      show ab_Z m_Mo_tellTreaty _ _ _ 42 [_, _, _] [_, _] _
      rw [he98, he99, hya, hyb.1]
      refine ab_br ok_Mo_tellTreaty rfl rfl ?_ ?_
      · intro h2
        show ab_Z m_Mo_tellTreaty _ _ _ 43 [_, _, _] [] _
        refine ab_go ok_Mo_tellTreaty 3 rfl ?_
        show ab_Z m_Mo_tellTreaty _ _ _ 46 [_, _, _] [_, _, _] _
        have hbe : b.2.2 = a.2.2 := hlb (fun z => h1' (h2.trans z))
        refine ab_cl ok_Mo_tellTreaty rfl [_, _, _] [] rfl ⟨_, _, rfl, rfl, Or.inl ⟨_, _, rfl, rfl⟩⟩ (Nat.le_of_ble_eq_true rfl) (t_Mo_wrong (d + 3) fm X s4 t hT4 hR4'.2.1 hga hl4 (c := 3) (by decide) (by decide) (by rw [hbe]; exact fun z => Or.inl ((hy1 a ha1).2.2 z)) _ _ rfl (by rw [hma])) ?_
        rintro _ _ ⟨rfl, s5, rfl, k5, hl5⟩
        show ab_Z m_Mo_tellTreaty _ _ _ 47 [_, _, _] [] _
        refine last s5 _ k5 hl5 (by rw [if_pos ⟨h2, h1'⟩]) (fun z => ?_)
        unfold ltU at z ⊢
        split
        · exact hb1
        · rename_i h0
          exact hyb.2.2 h0
      · intro h2
        show ab_Z m_Mo_tellTreaty _ _ _ 47 [_, _, _] [] _
        exact last s4 b.2.2 (fun _ _ _ => rfl) hl4 (by rw [if_neg (fun z => h2 z.1)]) hyb.2.2
end

