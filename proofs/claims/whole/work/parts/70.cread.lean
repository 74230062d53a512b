/-! the class's reader: clerks, deeds, treaties -/
def lvQ (K v : Nat → Nat) (R : Rs Nat) (l : Nat × Nat) : Nat → Rs (Nat × (Nat → Nat) × (Nat × Nat))
  | 0 => bnd R fun n => .inl (n, fun _ => 0, l)
  | f + 1 => bnd (lvQ K v R l f) fun a => bnd (intT K v 9 a.1 a.2.2) fun b => .inl (b.1, updN a.2.1 f b.2.1, b.2.2)
theorem lvQ_3 (K v : Nat → Nat) (R : Rs Nat) (l : Nat × Nat) : mpT Prod.fst (lvQ K v R l 3) = mpT Prod.fst (bnd R fun n => lv3T K v n l) ∧ ∀ a, (bnd R fun n => lv3T K v n l) = .inl a → ∃ g, lvQ K v R l 3 = .inl (a.1, g, a.2.2) ∧ ∀ f, f < 3 → g f = a.2.1 f := by
  cases R with
  | inr e => exact ⟨rfl, fun a h => by cases h⟩
  | inl n =>
    simp only [lvQ, lv3T, bnd_l]
    cases intT K v 9 n l with
    | inr e => exact ⟨rfl, fun a h => by cases h⟩
    | inl a =>
      simp only [bnd_l]
      cases intT K v 9 a.1 a.2.2 with
      | inr e => exact ⟨rfl, fun a h => by cases h⟩
      | inl b =>
        simp only [bnd_l]
        cases intT K v 9 b.1 b.2.2 with
        | inr e => exact ⟨rfl, fun a h => by cases h⟩
        | inl c =>
          refine ⟨rfl, fun x h => ?_⟩
          cases h
          refine ⟨_, rfl, fun f hf => ?_⟩
          rcases (by omega : f = 0 ∨ f = 1 ∨ f = 2) with rfl | rfl | rfl <;> rfl
section
variable (d : Nat) (fm : Value) (X : Nat × (Nat → Int32)) (s : Nat → Nat → Int32) (t : Nat → Nat → Int64)
variable {K P v : Nat → Nat} {nm : Nat → List Nat}
theorem t_Re_acceptLevels_60 (hT : TC s t K P v nm) {R : Rs Nat} (hR : Rd s K R) {l : Nat × Nat} (hl : Lt s l) {k : Nat} (hk : k ≤ 6) : ab_T g_Re_acceptLevels (d + 2) (0, 0) [.ref 8, .ref 60, .int (nI k)] (HA fm X s t) (fun r h => r = none ∧ ∃ s', h = HA fm X s' t ∧ (∀ c j, c ≠ 8 → c ≠ 60 → s' c j = s c j) ∧ Rd s' K (mpT Prod.fst (bnd R fun n => lv3T K v n l)) ∧ (∃ l', Lt s' l') ∧ ∀ a, (bnd R fun n => lv3T K v n l) = .inl a → k < 5 → (∀ f, f < 3 → s' 60 (3 * k + f) = nI (a.2.1 f)) ∧ (∀ j, j < 3 * k → s' 60 j = s 60 j) ∧ Lt s' a.2.2) := by
  generalize hPo : (fun r h => r = none ∧ ∃ s', h = HA fm X s' t ∧ (∀ c j, c ≠ 8 → c ≠ 60 → s' c j = s c j) ∧ Rd s' K (mpT Prod.fst (bnd R fun n => lv3T K v n l)) ∧ (∃ l', Lt s' l') ∧ ∀ a, (bnd R fun n => lv3T K v n l) = .inl a → k < 5 → (∀ f, f < 3 → s' 60 (3 * k + f) = nI (a.2.1 f)) ∧ (∀ j, j < 3 * k → s' 60 j = s 60 j) ∧ Lt s' a.2.2 : Option Value → ab_H → Prop) = Po
  refine ab_T_of (M := m_Re_acceptLevels) rfl rfl (Nat.le_of_ble_eq_true rfl) ?_
  show ab_Z m_Re_acceptLevels _ _ _ 0 [_, _, _, _] [] _
  refine ab_go ok_Re_acceptLevels 2 rfl ?_
  show ab_Z m_Re_acceptLevels _ _ _ 2 [_, _, _, _] [] _
  refine lp_dn 3 (fun f => ∀ s1, (∀ c j, c ≠ 8 → c ≠ 60 → s1 c j = s c j) → Rd s1 K (mpT Prod.fst (lvQ K v R l f)) → (∃ l', Lt s1 l') → (∀ a, lvQ K v R l f = .inl a → Lt s1 a.2.2 ∧ (k < 5 → (∀ g, g < f → s1 60 (3 * k + g) = nI (a.2.1 g)) ∧ ∀ j, j < 3 * k → s1 60 j = s 60 j)) → ab_Z m_Re_acceptLevels (d + 2) (0, 0) Po 2 [some (.ref 8), some (.ref 60), some (.int (nI k)), some (.int (nI f))] [] (HA fm X s1 t)) ?_ ?_ s (fun _ _ _ _ => rfl) (by cases R <;> exact hR) ⟨l, hl⟩ (fun a ha => by
      cases R with
      | inr e => cases ha
      | inl n => cases ha; exact ⟨hl, fun _ => ⟨fun g hg => absurd hg (by omega), fun _ _ => rfl⟩⟩)
  · intro s1 k1 hR1 hl1 ha1
    obtain ⟨e1, e2⟩ := lvQ_3 K v R l
    rw [e1] at hR1
    refine ab_go ok_Re_acceptLevels 2 rfl ?_
    show ab_Z m_Re_acceptLevels _ _ _ 4 [_, _, _, _] [_, _] _
    refine ab_go ok_Re_acceptLevels 1 rfl ?_
    show ab_Z m_Re_acceptLevels _ _ _ 17 [_, _, _, _] [] _
    have fin : Po none (HA fm X s1 t) := by
      rw [← hPo]
      refine ⟨rfl, s1, rfl, k1, hR1, hl1, fun a ha hkn => ?_⟩
      obtain ⟨g, q1, q2⟩ := e2 a ha
      obtain ⟨q3, q4⟩ := ha1 _ q1
      exact ⟨fun f hf => by rw [(q4 hkn).1 f hf, ← q2 f hf], (q4 hkn).2, q3⟩
    exact ab_rV ok_Re_acceptLevels rfl (fin)
  · intro f hf ih s1 k1 hR1 hl1 ha1
    have hT1 : TC s1 t K P v nm := hT.k (fun c j h1 h2 => k1 c j h1 (by omega)) (KRt.rf t)
    refine ab_go ok_Re_acceptLevels 2 rfl ?_
    show ab_Z m_Re_acceptLevels _ _ _ 4 [_, _, _, _] [_, _] _
    refine ab_br ok_Re_acceptLevels rfl rfl ?_ ?_
    · intro h1
      show ab_Z m_Re_acceptLevels _ _ _ 17 [_, _, _, _] [] _
      exact absurd h1 (lp_in (N := 3) (by decide) hf)
    · intro h1
      show ab_Z m_Re_acceptLevels _ _ _ 5 [_, _, _, _] [] _
      obtain ⟨l1, hl1'⟩ := hl1
      obtain ⟨l2, hl2, hl2e⟩ : ∃ l2, Lt s1 l2 ∧ ∀ a, lvQ K v R l f = .inl a → l2 = a.2.2 := by
        cases hq : lvQ K v R l f with
        | inr e => exact ⟨l1, hl1', fun a h => by cases h⟩
        | inl a => exact ⟨a.2.2, (ha1 a hq).1, fun b h => by cases h; rfl⟩
      have hI : (bnd (mpT Prod.fst (lvQ K v R l f)) fun n => intT K v 9 n l2) = bnd (lvQ K v R l f) fun a => intT K v 9 a.1 a.2.2 := by
        cases hq : lvQ K v R l f with
        | inr e => rfl
        | inl a => rw [hl2e a hq]; rfl
      refine ab_go ok_Re_acceptLevels 8 rfl ?_
      show ab_Z m_Re_acceptLevels _ _ _ 13 [_, _, _, _] [_, _, _, _] _
      refine ab_cl ok_Re_acceptLevels rfl [_, _] [_, _] rfl ⟨_, _, rfl, rfl, Or.inl ⟨_, _, rfl, rfl⟩⟩ (Nat.le_of_ble_eq_true rfl) (t_Re_acceptInt d fm X s1 t hT1 hR1 hl2 (m := 9) (by decide) _ rfl) ?_
      rintro _ _ ⟨y, s2, rfl, rfl, k2, hR2, hl3, hy⟩
      show ab_Z m_Re_acceptLevels _ _ _ 14 [_, _, _, _] [_, _, _] _
      rw [hI] at hR2 hy
      refine ab_cl ok_Re_acceptLevels rfl [_, _, _] [] rfl rfl (Nat.le_of_ble_eq_true rfl) (t_SF_putX_60 (d + 1) fm X s2 t _ y) ?_
      rintro _ _ ⟨rfl, s3, rfl, k3, hp3⟩
      show ab_Z m_Re_acceptLevels _ _ _ 15 [_, _, _, _] [] _
      refine ab_go ok_Re_acceptLevels 2 rfl ?_
      show ab_Z m_Re_acceptLevels _ _ _ 2 [_, _, _, _] [] _
      rw [← nI_succ]
      have k13 : ∀ c j, c ≠ 8 → c ≠ 60 → s3 c j = s c j := fun c j h1 h2 => by rw [k3 c h2, k2 c j h1, k1 c j h1 h2]
      have hQs : lvQ K v R l (f + 1) = bnd (bnd (lvQ K v R l f) fun a => bnd (intT K v 9 a.1 a.2.2) fun b => .inl (a, b)) fun q => .inl (q.2.1, updN q.1.2.1 f q.2.2.1, q.2.2.2) := by
        rw [lvQ]
        cases lvQ K v R l f with
        | inr e => rfl
        | inl a =>
          simp only [bnd_l]
          cases intT K v 9 a.1 a.2.2 <;> rfl
      refine ih s3 k13 ?_ ?_ (fun a ha => ?_)
      · have e1 : mpT Prod.fst (lvQ K v R l (f + 1)) = mpT Prod.fst (bnd (lvQ K v R l f) fun a => intT K v 9 a.1 a.2.2) := by
          rw [lvQ]
          cases lvQ K v R l f with
          | inr e => rfl
          | inl a =>
            simp only [bnd_l]
            cases intT K v 9 a.1 a.2.2 <;> rfl
        rw [e1]
        exact hR2.of (by rw [k3 8 (by decide)]) (by rw [k3 8 (by decide)]) (by rw [k3 8 (by decide)])
      · obtain ⟨l3, hl3'⟩ := hl3
        exact ⟨l3, hl3'.of (by rw [k3 8 (by decide)]) (by rw [k3 8 (by decide)])⟩
      · rw [lvQ] at ha
        obtain ⟨a0, q1, q2⟩ := bnd_in ha
        obtain ⟨b0, q3, q4⟩ := bnd_in q2
        cases q4
        have hb : (bnd (lvQ K v R l f) fun a => intT K v 9 a.1 a.2.2) = .inl b0 := by rw [q1, bnd_l]; exact q3
        obtain ⟨y1, y2⟩ := hy b0 hb
        refine ⟨y2.of (by rw [k3 8 (by decide)]) (by rw [k3 8 (by decide)]), fun hkn => ?_⟩
        have hup := hp3 (3 * k + f) (by omega) (by rw [show (3 : Int32) = nI 3 from rfl, pk_mul, nI_add, Nat.mul_comm])
        obtain ⟨z1, z2⟩ := (ha1 a0 q1).2 hkn
        refine ⟨fun g hg => ?_, fun j hj => ?_⟩
        · rw [hup]
          by_cases hgf : g = f
          · subst hgf
            rw [ab_up_s, y1]
            show _ = nI (updN a0.2.1 g b0.2.1 g)
            unfold updN
            rw [if_pos rfl]
          · rw [ab_up_n (by omega), k2 60 _ (by decide), z1 g (by omega)]
            show _ = nI (updN a0.2.1 f b0.2.1 g)
            unfold updN
            rw [if_neg hgf]
        · rw [hup, ab_up_n (by omega), k2 60 _ (by decide), z2 j hj]
theorem t_Re_acceptLevels_63 (hT : TC s t K P v nm) {R : Rs Nat} (hR : Rd s K R) {l : Nat × Nat} (hl : Lt s l) {k : Nat} (hk : k ≤ 6) : ab_T g_Re_acceptLevels (d + 2) (0, 0) [.ref 8, .ref 63, .int (nI k)] (HA fm X s t) (fun r h => r = none ∧ ∃ s', h = HA fm X s' t ∧ (∀ c j, c ≠ 8 → c ≠ 63 → s' c j = s c j) ∧ Rd s' K (mpT Prod.fst (bnd R fun n => lv3T K v n l)) ∧ (∃ l', Lt s' l') ∧ ∀ a, (bnd R fun n => lv3T K v n l) = .inl a → k < 6 → (∀ f, f < 3 → s' 63 (3 * k + f) = nI (a.2.1 f)) ∧ (∀ j, j < 3 * k → s' 63 j = s 63 j) ∧ Lt s' a.2.2) := by
  generalize hPo : (fun r h => r = none ∧ ∃ s', h = HA fm X s' t ∧ (∀ c j, c ≠ 8 → c ≠ 63 → s' c j = s c j) ∧ Rd s' K (mpT Prod.fst (bnd R fun n => lv3T K v n l)) ∧ (∃ l', Lt s' l') ∧ ∀ a, (bnd R fun n => lv3T K v n l) = .inl a → k < 6 → (∀ f, f < 3 → s' 63 (3 * k + f) = nI (a.2.1 f)) ∧ (∀ j, j < 3 * k → s' 63 j = s 63 j) ∧ Lt s' a.2.2 : Option Value → ab_H → Prop) = Po
  refine ab_T_of (M := m_Re_acceptLevels) rfl rfl (Nat.le_of_ble_eq_true rfl) ?_
  show ab_Z m_Re_acceptLevels _ _ _ 0 [_, _, _, _] [] _
  refine ab_go ok_Re_acceptLevels 2 rfl ?_
  show ab_Z m_Re_acceptLevels _ _ _ 2 [_, _, _, _] [] _
  refine lp_dn 3 (fun f => ∀ s1, (∀ c j, c ≠ 8 → c ≠ 63 → s1 c j = s c j) → Rd s1 K (mpT Prod.fst (lvQ K v R l f)) → (∃ l', Lt s1 l') → (∀ a, lvQ K v R l f = .inl a → Lt s1 a.2.2 ∧ (k < 6 → (∀ g, g < f → s1 63 (3 * k + g) = nI (a.2.1 g)) ∧ ∀ j, j < 3 * k → s1 63 j = s 63 j)) → ab_Z m_Re_acceptLevels (d + 2) (0, 0) Po 2 [some (.ref 8), some (.ref 63), some (.int (nI k)), some (.int (nI f))] [] (HA fm X s1 t)) ?_ ?_ s (fun _ _ _ _ => rfl) (by cases R <;> exact hR) ⟨l, hl⟩ (fun a ha => by
      cases R with
      | inr e => cases ha
      | inl n => cases ha; exact ⟨hl, fun _ => ⟨fun g hg => absurd hg (by omega), fun _ _ => rfl⟩⟩)
  · intro s1 k1 hR1 hl1 ha1
    obtain ⟨e1, e2⟩ := lvQ_3 K v R l
    rw [e1] at hR1
    refine ab_go ok_Re_acceptLevels 2 rfl ?_
    show ab_Z m_Re_acceptLevels _ _ _ 4 [_, _, _, _] [_, _] _
    refine ab_go ok_Re_acceptLevels 1 rfl ?_
    show ab_Z m_Re_acceptLevels _ _ _ 17 [_, _, _, _] [] _
    have fin : Po none (HA fm X s1 t) := by
      rw [← hPo]
      refine ⟨rfl, s1, rfl, k1, hR1, hl1, fun a ha hkn => ?_⟩
      obtain ⟨g, q1, q2⟩ := e2 a ha
      obtain ⟨q3, q4⟩ := ha1 _ q1
      exact ⟨fun f hf => by rw [(q4 hkn).1 f hf, ← q2 f hf], (q4 hkn).2, q3⟩
    exact ab_rV ok_Re_acceptLevels rfl (fin)
  · intro f hf ih s1 k1 hR1 hl1 ha1
    have hT1 : TC s1 t K P v nm := hT.k (fun c j h1 h2 => k1 c j h1 (by omega)) (KRt.rf t)
    refine ab_go ok_Re_acceptLevels 2 rfl ?_
    show ab_Z m_Re_acceptLevels _ _ _ 4 [_, _, _, _] [_, _] _
    refine ab_br ok_Re_acceptLevels rfl rfl ?_ ?_
    · intro h1
      show ab_Z m_Re_acceptLevels _ _ _ 17 [_, _, _, _] [] _
      exact absurd h1 (lp_in (N := 3) (by decide) hf)
    · intro h1
      show ab_Z m_Re_acceptLevels _ _ _ 5 [_, _, _, _] [] _
      obtain ⟨l1, hl1'⟩ := hl1
      obtain ⟨l2, hl2, hl2e⟩ : ∃ l2, Lt s1 l2 ∧ ∀ a, lvQ K v R l f = .inl a → l2 = a.2.2 := by
        cases hq : lvQ K v R l f with
        | inr e => exact ⟨l1, hl1', fun a h => by cases h⟩
        | inl a => exact ⟨a.2.2, (ha1 a hq).1, fun b h => by cases h; rfl⟩
      have hI : (bnd (mpT Prod.fst (lvQ K v R l f)) fun n => intT K v 9 n l2) = bnd (lvQ K v R l f) fun a => intT K v 9 a.1 a.2.2 := by
        cases hq : lvQ K v R l f with
        | inr e => rfl
        | inl a => rw [hl2e a hq]; rfl
      refine ab_go ok_Re_acceptLevels 8 rfl ?_
      show ab_Z m_Re_acceptLevels _ _ _ 13 [_, _, _, _] [_, _, _, _] _
      refine ab_cl ok_Re_acceptLevels rfl [_, _] [_, _] rfl ⟨_, _, rfl, rfl, Or.inl ⟨_, _, rfl, rfl⟩⟩ (Nat.le_of_ble_eq_true rfl) (t_Re_acceptInt d fm X s1 t hT1 hR1 hl2 (m := 9) (by decide) _ rfl) ?_
      rintro _ _ ⟨y, s2, rfl, rfl, k2, hR2, hl3, hy⟩
      show ab_Z m_Re_acceptLevels _ _ _ 14 [_, _, _, _] [_, _, _] _
      rw [hI] at hR2 hy
      refine ab_cl ok_Re_acceptLevels rfl [_, _, _] [] rfl rfl (Nat.le_of_ble_eq_true rfl) (t_SF_putX_63 (d + 1) fm X s2 t _ y) ?_
      rintro _ _ ⟨rfl, s3, rfl, k3, hp3⟩
      show ab_Z m_Re_acceptLevels _ _ _ 15 [_, _, _, _] [] _
      refine ab_go ok_Re_acceptLevels 2 rfl ?_
      show ab_Z m_Re_acceptLevels _ _ _ 2 [_, _, _, _] [] _
      rw [← nI_succ]
      have k13 : ∀ c j, c ≠ 8 → c ≠ 63 → s3 c j = s c j := fun c j h1 h2 => by rw [k3 c h2, k2 c j h1, k1 c j h1 h2]
      have hQs : lvQ K v R l (f + 1) = bnd (bnd (lvQ K v R l f) fun a => bnd (intT K v 9 a.1 a.2.2) fun b => .inl (a, b)) fun q => .inl (q.2.1, updN q.1.2.1 f q.2.2.1, q.2.2.2) := by
        rw [lvQ]
        cases lvQ K v R l f with
        | inr e => rfl
        | inl a =>
          simp only [bnd_l]
          cases intT K v 9 a.1 a.2.2 <;> rfl
      refine ih s3 k13 ?_ ?_ (fun a ha => ?_)
      · have e1 : mpT Prod.fst (lvQ K v R l (f + 1)) = mpT Prod.fst (bnd (lvQ K v R l f) fun a => intT K v 9 a.1 a.2.2) := by
          rw [lvQ]
          cases lvQ K v R l f with
          | inr e => rfl
          | inl a =>
            simp only [bnd_l]
            cases intT K v 9 a.1 a.2.2 <;> rfl
        rw [e1]
        exact hR2.of (by rw [k3 8 (by decide)]) (by rw [k3 8 (by decide)]) (by rw [k3 8 (by decide)])
      · obtain ⟨l3, hl3'⟩ := hl3
        exact ⟨l3, hl3'.of (by rw [k3 8 (by decide)]) (by rw [k3 8 (by decide)])⟩
      · rw [lvQ] at ha
        obtain ⟨a0, q1, q2⟩ := bnd_in ha
        obtain ⟨b0, q3, q4⟩ := bnd_in q2
        cases q4
        have hb : (bnd (lvQ K v R l f) fun a => intT K v 9 a.1 a.2.2) = .inl b0 := by rw [q1, bnd_l]; exact q3
        obtain ⟨y1, y2⟩ := hy b0 hb
        refine ⟨y2.of (by rw [k3 8 (by decide)]) (by rw [k3 8 (by decide)]), fun hkn => ?_⟩
        have hup := hp3 (3 * k + f) (by omega) (by rw [show (3 : Int32) = nI 3 from rfl, pk_mul, nI_add, Nat.mul_comm])
        obtain ⟨z1, z2⟩ := (ha1 a0 q1).2 hkn
        refine ⟨fun g hg => ?_, fun j hj => ?_⟩
        · rw [hup]
          by_cases hgf : g = f
          · subst hgf
            rw [ab_up_s, y1]
            show _ = nI (updN a0.2.1 g b0.2.1 g)
            unfold updN
            rw [if_pos rfl]
          · rw [ab_up_n (by omega), k2 63 _ (by decide), z1 g (by omega)]
            show _ = nI (updN a0.2.1 f b0.2.1 g)
            unfold updN
            rw [if_neg hgf]
        · rw [hup, ab_up_n (by omega), k2 63 _ (by decide), z2 j hj]
theorem min_n {n m : Nat} (hn : n < 1000) (hm : m < 1000) : (if nI m < nI n + 1 then nI m else nI n + 1) = nI (if n < m then n + 1 else m) := by
  rw [← nI_succ]
  by_cases h : n < m
  · rw [if_pos h, if_neg (fun z => by have := (nI_ltI (by omega) (by omega)).mp z; omega)]
  · rw [if_neg h, if_pos ((nI_ltI (by omega) (by omega)).mpr (by omega))]
abbrev PTl (fm : Value) (X : Nat × (Nat → Int32)) (s : Nat → Nat → Int32) (t : Nat → Nat → Int64) (K : Nat → Nat) (Q : Rs (Nat × Tx)) : Option Value → ab_H → Prop := fun r h => r = none ∧ ∃ s' t', h = HA fm X s' t' ∧ KR s s' ∧ KRt t t' ∧ Rd s' K (mpT Prod.fst Q) ∧ (∃ l', Lt s' l') ∧ ∀ a, Q = .inl a → DrC s' t' a.2 ∧ Lt s' (xLt a.2)
theorem bnd_cg {α β : Type} {x : Rs α} {f g : α → Rs β} (h : ∀ a, x = .inl a → f a = g a) : bnd x f = bnd x g := by
  cases x with
  | inl a => exact h a rfl
  | inr e => rfl
theorem mp_bnd {α β : Type} {x : Rs α} {f : α → Rs β} {pa : β → Nat} {R : Nat → Rs Nat} {pb : α → Nat} (h : ∀ a, x = .inl a → mpT pa (f a) = R (pb a)) : mpT pa (bnd x f) = bnd (mpT pb x) R := by
  cases x with
  | inl a => exact h a rfl
  | inr e => rfl
end

