/-! the class's reader: tokens taken -/
abbrev gdT (K : Nat → Nat) (n : Nat) : Prop := n ≤ 400 ∧ ∀ m, m < n → K m ≠ 0 ∧ K m ≠ 1
abbrev nmO (l : List Nat) : Prop := (∀ x ∈ l, 1 ≤ x ∧ x ≤ 26) ∧ l.length ≤ 8
/-- what a reader may take for given of tokens -/
def TkW (K v : Nat → Nat) (nm : Nat → List Nat) : Prop := (∀ n, K n < 277) ∧ (∀ n, K n = 3 → v n < 10000) ∧ ∀ n, K n = 2 → nmO (nm n)
def TC (s : Nat → Nat → Int32) (t : Nat → Nat → Int64) (K P v : Nat → Nat) (nm : Nat → List Nat) : Prop := (∀ n, gdT K n → s 4 n = nI (K n) ∧ s 5 n = nI (P n) ∧ (K n = 3 → t 6 n = lN (v n)) ∧ (K n = 2 → t 6 n = lN (cdL 32 (nm n)))) ∧ TkW K v nm
def KR (s s' : Nat → Nat → Int32) : Prop := ∀ c k, c ≠ 8 → ¬ (57 ≤ c ∧ c ≤ 80) → s' c k = s c k
def KRt (t t' : Nat → Nat → Int64) : Prop := ∀ c, c ≠ 58 → c ≠ 61 → t' c = t c
theorem KR.rf (s : Nat → Nat → Int32) : KR s s := fun _ _ _ _ => rfl
theorem KR.tr {a b c : Nat → Nat → Int32} (h : KR a b) (g : KR b c) : KR a c := fun x k p q => (g x k p q).trans (h x k p q)
theorem KRt.rf (t : Nat → Nat → Int64) : KRt t t := fun _ _ _ => rfl
theorem KRt.tr {a b c : Nat → Nat → Int64} (h : KRt a b) (g : KRt b c) : KRt a c := fun x p q => (g x p q).trans (h x p q)
theorem TC.k {s s' : Nat → Nat → Int32} {t t' : Nat → Nat → Int64} {K P v : Nat → Nat} {nm : Nat → List Nat} (h : KR s s') (g : KRt t t') (hT : TC s t K P v nm) : TC s' t' K P v nm := ⟨fun n hn => by
  rw [h 4 n (by decide) (by decide), h 5 n (by decide) (by decide), g 6 (by decide) (by decide)]
  exact hT.1 n hn, hT.2⟩
/-- only the reader's own place is changed -/
def KA (s s' : Nat → Nat → Int32) : Prop := ∀ c k, ¬ (c = 8 ∧ (k = 1 ∨ k = 2 ∨ k = 3)) → s' c k = s c k
def KL (s s' : Nat → Nat → Int32) : Prop := ∀ c k, c ≠ 8 → s' c k = s c k
theorem KA.rf (s : Nat → Nat → Int32) : KA s s := fun _ _ _ => rfl
theorem KA.tr {a b c : Nat → Nat → Int32} (h : KA a b) (g : KA b c) : KA a c := fun x k p => (g x k p).trans (h x k p)
theorem KA.l {a b : Nat → Nat → Int32} (h : KA a b) : KL a b := fun x k p => h x k (fun z => p z.1)
theorem KA.u {a b : Nat → Nat → Int32} {k : Nat} {x : Int32} (hk : k = 1 ∨ k = 2 ∨ k = 3) (h : KA a b) : KA a (ab_up b 8 k x) := fun c j hc => by
  by_cases h8 : c = 8
  · subst h8
    rw [ab_up_n (fun z => hc ⟨rfl, by omega⟩)]
    exact h 8 j hc
  · rw [ab_up_o h8]
    exact h c j hc
theorem KL.rf (s : Nat → Nat → Int32) : KL s s := fun _ _ _ => rfl
theorem KL.tr {a b c : Nat → Nat → Int32} (h : KL a b) (g : KL b c) : KL a c := fun x k p => (g x k p).trans (h x k p)
theorem KL.r {a b : Nat → Nat → Int32} (h : KL a b) : KR a b := fun x k p _ => h x k p
def Rd (s : Nat → Nat → Int32) (K : Nat → Nat) (R : Rs Nat) : Prop := match R with
  | .inl t => s 8 1 = nI t ∧ s 8 2 = nI (K t) ∧ s 8 3 = 0 ∧ gdT K t
  | .inr e => s 8 1 = nI e.2 ∧ s 8 3 = nI e.1 ∧ (e.1 = 1 ∨ e.1 = 2) ∧ gdT K e.2
theorem Rd.of {s s' : Nat → Nat → Int32} {K : Nat → Nat} {R : Rs Nat} (h1 : s' 8 1 = s 8 1) (h2 : s' 8 2 = s 8 2) (h3 : s' 8 3 = s 8 3) (h : Rd s K R) : Rd s' K R := by
  unfold Rd at h ⊢
  cases R with
  | inl t => exact ⟨h1.trans h.1, h2.trans h.2.1, h3.trans h.2.2.1, h.2.2.2⟩
  | inr e => exact ⟨h1.trans h.1, h3.trans h.2.1, h.2.2⟩
def Lt (s : Nat → Nat → Int32) (l : Nat × Nat) : Prop := s 8 4 = nI l.1 ∧ l.1 ≤ 5 ∧ (∃ z, z ≤ 400 ∧ s 8 5 = nI z) ∧ (l.1 ≠ 0 → s 8 5 = nI l.2 ∧ l.2 ≤ 400)
theorem Lt.of {s s' : Nat → Nat → Int32} {l : Nat × Nat} (h4 : s' 8 4 = s 8 4) (h5 : s' 8 5 = s 8 5) (h : Lt s l) : Lt s' l := ⟨h4.trans h.1, h.2.1, by obtain ⟨z, a, b⟩ := h.2.2.1; exact ⟨z, a, h5.trans b⟩, fun q => ⟨h5.trans (h.2.2.2 q).1, (h.2.2.2 q).2⟩⟩
theorem KA.lt {s s' : Nat → Nat → Int32} {l : Nat × Nat} (h : KA s s') (hl : Lt s l) : Lt s' l := hl.of (h 8 4 (by omega)) (h 8 5 (by omega))
def isL {α : Type} (x : Rs α) : Bool := match x with
  | .inl _ => true
  | .inr _ => false
theorem isL_l {α : Type} {a : α} (h : isL (.inl a : Rs α) = false) : False := absurd (show true = false from h) (by decide)
theorem isL_r {α : Type} {e : Nat × Nat} (h : isL (.inr e : Rs α) = true) : False := absurd (show false = true from h) (by decide)
abbrev mpT {α : Type} (f : α → Nat) (x : Rs α) : Rs Nat := bnd x fun a => .inl (f a)
theorem gd_s {K : Nat → Nat} {t : Nat} (h : gdT K t) (ht : t < 400) (h0 : K t ≠ 0) (h1 : K t ≠ 1) : gdT K (t + 1) := ⟨by omega, fun m hm => by
  by_cases hmt : m = t
  · rw [hmt]; exact ⟨h0, h1⟩
  · exact h.2 m (by omega)⟩
def posR (R : Rs Nat) : Nat := match R with
  | .inl t => t
  | .inr e => e.2
theorem Rd.pos {s : Nat → Nat → Int32} {K : Nat → Nat} {R : Rs Nat} (h : Rd s K R) : s 8 1 = nI (posR R) ∧ posR R ≤ 400 := by
  cases R with
  | inl t => exact ⟨h.1, h.2.2.2.1⟩
  | inr e => exact ⟨h.1, h.2.2.2.1⟩
section
variable (d : Nat) (fm : Value) (X : Nat × (Nat → Int32)) (s : Nat → Nat → Int32) (t : Nat → Nat → Int64)
variable {K P v : Nat → Nat} {nm : Nat → List Nat}
theorem t_Re_accept (hT : TC s t K P v nm) {R : Rs Nat} (hR : Rd s K R) {w : Nat} (hw : 2 ≤ w) (hw3 : w < 300) (z : Int32) (hz : z = nI w) : ab_T g_Re_accept d (0, 0) [.ref 8, .int z] (HA fm X s t) (fun r h => r = some (.int (bB (isL (bnd R (eatT K w))))) ∧ ∃ s', h = HA fm X s' t ∧ KA s s' ∧ Rd s' K (bnd R (eatT K w))) := by
  subst hz
  have hKr := hT.2.1
  cases R with
  | inr e =>
    obtain ⟨a1, a2, a3, a4⟩ := hR
    refine ab_T_of (M := m_Re_accept) rfl rfl (Nat.le_of_ble_eq_true rfl) ?_
    show ab_Z m_Re_accept _ _ _ 0 [_, _] [] _
    refine ab_go ok_Re_accept 2 rfl ?_
    show ab_Z m_Re_accept _ _ _ 2 [_, _] [_] _
    rw [a2]
    refine ab_br ok_Re_accept rfl rfl ?_ ?_
    · intro h1
      show ab_Z m_Re_accept _ _ _ 5 [_, _] [] _
      exact absurd h1 (nI_ne0 (by omega) (by omega))
    · intro h1
      show ab_Z m_Re_accept _ _ _ 3 [_, _] [] _
      refine ab_go ok_Re_accept 1 rfl ?_
      show ab_Z m_Re_accept _ _ _ 4 [_, _] [_] _
      exact ab_rZ ok_Re_accept rfl (by first | decide | exact bB_01 _ | exact bI_01 _) (⟨rfl, s, rfl, KA.rf s, a1, a2, a3, a4⟩)
  | inl n =>
    obtain ⟨a1, a2, a3, a4⟩ := hR
    have hkn := hKr n
    rw [bnd_l]
    unfold eatT goT
    refine ab_T_of (M := m_Re_accept) rfl rfl (Nat.le_of_ble_eq_true rfl) ?_
    show ab_Z m_Re_accept _ _ _ 0 [_, _] [] _
    refine ab_go ok_Re_accept 2 rfl ?_
    show ab_Z m_Re_accept _ _ _ 2 [_, _] [_] _
    rw [a3]
    refine ab_go ok_Re_accept 1 rfl ?_
    show ab_Z m_Re_accept _ _ _ 5 [_, _] [] _
    refine ab_go ok_Re_accept 3 rfl ?_
    show ab_Z m_Re_accept _ _ _ 8 [_, _] [_, _] _
    rw [a2]
    refine ab_br ok_Re_accept rfl rfl ?_ ?_
    · intro h1
      show ab_Z m_Re_accept _ _ _ 13 [_, _] [] _
      have h1' := (nI_eq (show K n < 2 ^ 31 by omega) (show w < 2 ^ 31 by omega)).mp h1
      rw [if_pos h1']
      refine ab_go ok_Re_accept 3 rfl ?_
      show ab_Z m_Re_accept _ _ _ 16 [_, _] [_, _] _
      rw [a1]
      refine ab_br ok_Re_accept rfl rfl ?_ ?_
      · intro h2
        show ab_Z m_Re_accept _ _ _ 21 [_, _] [] _
        have h2' := (nI_ltI (show n < 2 ^ 31 by omega) (show 400 < 2 ^ 31 by decide)).mp h2
        rw [if_pos h2']
        have hg := gd_s a4 h2' (by omega) (by omega)
        refine ab_go ok_Re_accept 9 rfl ?_
        show ab_Z m_Re_accept _ _ _ 30 [_, _] [_, _] _
        rw [a1, ← nI_succ, ab_up_s]
        refine ab_br ok_Re_accept rfl rfl ?_ ?_
        · intro h4
          show ab_Z m_Re_accept _ _ _ 45 [_, _] [_] _
          exact absurd h4 (nI_l0 (by omega))
        · intro h4
          show ab_Z m_Re_accept _ _ _ 31 [_, _] [_] _
          refine ab_go ok_Re_accept 6 rfl ?_
          show ab_Z m_Re_accept _ _ _ 37 [_, _] [_, _, _] _
          rw [ab_up_s]
          refine ab_br ok_Re_accept rfl rfl ?_ ?_
          · intro h3
            show ab_Z m_Re_accept _ _ _ 45 [_, _] [_] _
            exact absurd h3 (lp_in (N := 401) (by decide) (by omega))
          · intro h3
            show ab_Z m_Re_accept _ _ _ 38 [_, _] [_] _
            refine ab_go ok_Re_accept 5 rfl ?_
            show ab_Z m_Re_accept _ _ _ 43 [_, _] [_, _, _] _
            rw [ab_up_s]
            refine ab_ia ok_Re_accept rfl rfl (k := (n + 1)) (by first | rfl | (simp only [LL1, LL2, LL3, LL4, LL5, LL6, LL7, LL8, LL10, LL15, LL18, LL20, LL21, LL22, LL23, LL24, LL32, LL39, LL40, LL130, LL420, pk_mul, nI_add]; done) | (simp only [LL1, LL2, LL3, LL4, LL5, LL6, LL7, LL8, LL10, LL15, LL18, LL20, LL21, LL22, LL23, LL24, LL32, LL39, LL40, LL130, LL420, pk_mul, nI_add]; congr 1; omega)) (by omega) (Nat.le_of_ble_eq_true rfl) ?_
            show ab_Z m_Re_accept _ _ _ 44 [_, _] [_, _] _
            rw [show ab_up s 8 1 (nI (n + 1)) 4 (n + 1) = nI (K (n + 1)) from by rw [ab_up_o (by decide)]; exact (hT.1 (n + 1) hg).1]
            refine ab_go ok_Re_accept 4 rfl ?_
            show ab_Z m_Re_accept _ _ _ 49 [_, _] [_] _
            rw [show ab_up (ab_up s 8 1 (nI (n + 1))) 8 2 (nI (K (n + 1))) 8 3 = 0 from by rw [ab_up_n (by decide), ab_up_n (by decide)]; exact a3]
            refine ab_go ok_Re_accept 1 rfl ?_
            show ab_Z m_Re_accept _ _ _ 50 [_, _] [] _
            refine ab_go ok_Re_accept 2 rfl ?_
            show ab_Z m_Re_accept _ _ _ 53 [_, _] [_] _
            exact ab_rZ ok_Re_accept rfl (by first | decide | exact bB_01 _ | exact bI_01 _) (⟨rfl, _, rfl, KA.u (by omega) (KA.u (by omega) (KA.rf s)), by rw [ab_up_n (by decide), ab_up_s], ab_up_s .., by rw [ab_up_n (by decide), ab_up_n (by decide)]; exact a3, hg⟩)
      · intro h2
        show ab_Z m_Re_accept _ _ _ 17 [_, _] [] _
        have h2' : ¬ n < 400 := fun z => h2 ((nI_ltI (show n < 2 ^ 31 by omega) (show 400 < 2 ^ 31 by decide)).mpr z)
        rw [if_neg h2']
        refine ab_go ok_Re_accept 6 rfl ?_
        show ab_Z m_Re_accept _ _ _ 49 [_, _] [_] _
        rw [ab_up_s]
        refine ab_go ok_Re_accept 1 rfl ?_
        show ab_Z m_Re_accept _ _ _ 52 [_, _] [] _
        refine ab_go ok_Re_accept 1 rfl ?_
        show ab_Z m_Re_accept _ _ _ 53 [_, _] [_] _
        exact ab_rZ ok_Re_accept rfl (by first | decide | exact bB_01 _ | exact bI_01 _) (⟨rfl, _, rfl, KA.u (by omega) (KA.rf s), by rw [ab_up_n (by decide)]; exact a1, ab_up_s .., Or.inr rfl, a4⟩)
    · intro h1
      show ab_Z m_Re_accept _ _ _ 9 [_, _] [] _
      have h1' : ¬ K n = w := fun z => h1 (by rw [z])
      rw [if_neg h1']
      refine ab_go ok_Re_accept 6 rfl ?_
      show ab_Z m_Re_accept _ _ _ 49 [_, _] [_] _
      rw [ab_up_s]
      refine ab_go ok_Re_accept 1 rfl ?_
      show ab_Z m_Re_accept _ _ _ 52 [_, _] [] _
      refine ab_go ok_Re_accept 1 rfl ?_
      show ab_Z m_Re_accept _ _ _ 53 [_, _] [_] _
      exact ab_rZ ok_Re_accept rfl (by first | decide | exact bB_01 _ | exact bI_01 _) (⟨rfl, _, rfl, KA.u (by omega) (KA.rf s), by rw [ab_up_n (by decide)]; exact a1, ab_up_s .., Or.inl rfl, a4⟩)
theorem t_Re_fail {R : Rs Nat} (hR : Rd s K R) {c : Nat} (hc : c = 1 ∨ c = 2) (z : Int32) (hz : z = nI c) : ab_T g_Re_fail d (0, 0) [.ref 8, .int z] (HA fm X s t) (fun r h => r = none ∧ ∃ s', h = HA fm X s' t ∧ KA s s' ∧ Rd s' K (bnd R fun n => .inr (c, n))) := by
  subst hz
  cases R with
  | inr e =>
    obtain ⟨a1, a2, a3, a4⟩ := hR
    refine ab_T_of (M := m_Re_fail) rfl rfl (Nat.le_of_ble_eq_true rfl) ?_
    show ab_Z m_Re_fail _ _ _ 0 [_, _] [] _
    refine ab_go ok_Re_fail 2 rfl ?_
    show ab_Z m_Re_fail _ _ _ 2 [_, _] [_] _
    rw [a2]
    refine ab_br ok_Re_fail rfl rfl ?_ ?_
    · intro h1
      show ab_Z m_Re_fail _ _ _ 3 [_, _] [] _
      exact absurd h1 (nI_ne0 (by omega) (by omega))
    · intro h1
      show ab_Z m_Re_fail _ _ _ 6 [_, _] [] _
      exact ab_rV ok_Re_fail rfl (⟨rfl, s, rfl, KA.rf s, a1, a2, a3, a4⟩)
  | inl n =>
    obtain ⟨a1, a2, a3, a4⟩ := hR
    refine ab_T_of (M := m_Re_fail) rfl rfl (Nat.le_of_ble_eq_true rfl) ?_
    show ab_Z m_Re_fail _ _ _ 0 [_, _] [] _
    refine ab_go ok_Re_fail 2 rfl ?_
    show ab_Z m_Re_fail _ _ _ 2 [_, _] [_] _
    rw [a3]
    refine ab_go ok_Re_fail 1 rfl ?_
    show ab_Z m_Re_fail _ _ _ 3 [_, _] [] _
    refine ab_go ok_Re_fail 3 rfl ?_
    show ab_Z m_Re_fail _ _ _ 6 [_, _] [] _
    have hk : KA s (ab_up s 8 3 (nI c)) := fun x k hx => by
      by_cases h8 : x = 8
      · subst h8
        rw [ab_up_n (fun z => hx ⟨rfl, by omega⟩)]
      · rw [ab_up_o h8]
    have h1 : ab_up s 8 3 (nI c) 8 1 = nI n := by rw [ab_up_n (by decide)]; exact a1
    exact ab_rV ok_Re_fail rfl (⟨rfl, _, rfl, hk, h1, ab_up_s .., hc, a4⟩)
theorem t_Re_failLate {l : Nat × Nat} (hl : Lt s l) {c n : Nat} (hc : 1 ≤ c) (hc5 : c ≤ 5) (hn : n ≤ 400) (z y : Int32) (hz : z = nI c) (hy : y = nI n) : ab_T g_Re_failLate d (0, 0) [.ref 8, .int z, .int y] (HA fm X s t) (fun r h => r = none ∧ ∃ s', h = HA fm X s' t ∧ (∀ c k, ¬ (c = 8 ∧ (k = 4 ∨ k = 5)) → s' c k = s c k) ∧ Lt s' (ltU l c n)) := by
  subst hz hy
  obtain ⟨a1, a2, a3, a4⟩ := hl
  refine ab_T_of (M := m_Re_failLate) rfl rfl (Nat.le_of_ble_eq_true rfl) ?_
  show ab_Z m_Re_failLate _ _ _ 0 [_, _, _] [] _
  refine ab_go ok_Re_failLate 2 rfl ?_
  show ab_Z m_Re_failLate _ _ _ 2 [_, _, _] [_] _
  rw [a1]
  refine ab_br ok_Re_failLate rfl rfl ?_ ?_
  · intro h1
    show ab_Z m_Re_failLate _ _ _ 3 [_, _, _] [] _
    have h0 : l.1 = 0 := (nI_z (by omega)).mp h1
    refine ab_go ok_Re_failLate 6 rfl ?_
    show ab_Z m_Re_failLate _ _ _ 9 [_, _, _] [] _
    have hk : ∀ x k, ¬ (x = 8 ∧ (k = 4 ∨ k = 5)) → ab_up (ab_up s 8 4 (nI c)) 8 5 (nI n) x k = s x k := fun x k hx => by
      by_cases h8 : x = 8
      · subst h8
        rw [ab_up_n (fun z => hx ⟨rfl, by omega⟩), ab_up_n (fun z => hx ⟨rfl, by omega⟩)]
      · rw [ab_up_o h8, ab_up_o h8]
    have hlt : Lt (ab_up (ab_up s 8 4 (nI c)) 8 5 (nI n)) (ltU l c n) := by
      unfold ltU
      rw [if_pos h0]
      exact ⟨by rw [ab_up_n (by decide), ab_up_s], hc5, ⟨n, hn, ab_up_s ..⟩, fun _ => ⟨ab_up_s .., hn⟩⟩
    exact ab_rV ok_Re_failLate rfl (⟨rfl, _, rfl, hk, hlt⟩)
  · intro h1
    show ab_Z m_Re_failLate _ _ _ 9 [_, _, _] [] _
    have h0 : ¬ l.1 = 0 := fun z => h1 (by rw [z]; rfl)
    have hlt : Lt s (ltU l c n) := by
      unfold ltU
      rw [if_neg h0]
      exact ⟨a1, a2, a3, a4⟩
    exact ab_rV ok_Re_failLate rfl (⟨rfl, s, rfl, fun _ _ _ => rfl, hlt⟩)
theorem t_Re_acceptInt (hT : TC s t K P v nm) {R : Rs Nat} (hR : Rd s K R) {l : Nat × Nat} (hl : Lt s l) {m : Nat} (hm : m < 10000) (z : Int32) (hz : z = nI m) : ab_T g_Re_acceptInt (d + 1) (0, 0) [.ref 8, .int z] (HA fm X s t) (fun r h => ∃ y s', r = some (.int y) ∧ h = HA fm X s' t ∧ KL s s' ∧ Rd s' K (mpT Prod.fst (bnd R fun n => intT K v m n l)) ∧ (∃ l', Lt s' l') ∧ ∀ a, (bnd R fun n => intT K v m n l) = .inl a → y = nI a.2.1 ∧ Lt s' a.2.2) := by
  subst hz
  obtain ⟨p1, p2⟩ := hR.pos
  have hmp : mpT Prod.fst (bnd R fun n => intT K v m n l) = bnd R (eatT K 3) := by
    cases R with
    | inr e => rfl
    | inl n =>
      show mpT Prod.fst (intT K v m n l) = eatT K 3 n
      unfold intT
      cases eatT K 3 n <;> rfl
  rw [hmp]
  refine ab_T_of (M := m_Re_acceptInt) rfl rfl (Nat.le_of_ble_eq_true rfl) ?_
  show ab_Z m_Re_acceptInt _ _ _ 0 [_, _, _, _] [] _
  refine ab_go ok_Re_acceptInt 5 rfl ?_
  show ab_Z m_Re_acceptInt _ _ _ 5 [_, _, _, _] [_, _] _
  rw [p1]
  refine ab_cl ok_Re_acceptInt rfl [_, _] [] rfl ⟨_, _, rfl, rfl, Or.inl ⟨_, _, rfl, rfl⟩⟩ (Nat.le_of_ble_eq_true rfl) (t_Re_accept d fm X s t hT hR (w := 3) (by decide) (by decide) _ rfl) ?_
  rintro _ _ ⟨rfl, s1, rfl, k1, hR1⟩
  show ab_Z m_Re_acceptInt _ _ _ 6 [_, _, _, _] [_] _
  refine ab_br ok_Re_acceptInt rfl rfl ?_ ?_
  · intro h1
    show ab_Z m_Re_acceptInt _ _ _ 7 [_, _, _, _] [] _
    have h1' := bB_0.mp h1
    refine ab_go ok_Re_acceptInt 1 rfl ?_
    show ab_Z m_Re_acceptInt _ _ _ 8 [_, _, _, _] [_] _
    have hno : ∀ a, (bnd R fun n => intT K v m n l) ≠ .inl a := fun a ha => by
      obtain ⟨n, e1, e2⟩ := bnd_in ha
      obtain ⟨n1, e3, e4⟩ := bnd_in e2
      rw [e1, bnd_l, e3] at h1'
      exact isL_l h1'
    exact ab_rI ok_Re_acceptInt rfl (⟨0, s1, rfl, rfl, k1.l, hR1, ⟨l, k1.lt hl⟩, fun a ha => absurd ha (hno a)⟩)
  · intro h1
    show ab_Z m_Re_acceptInt _ _ _ 9 [_, _, _, _] [] _
    have h1' := bB_n0 h1
    have hT1 := hT.k k1.l.r (KRt.rf t)
    cases R with
    | inr e => exact absurd h1' (fun z => isL_r z)
    | inl n =>
      rw [bnd_l] at hR1 h1' ⊢
      have hn : posR (.inl n) = n := rfl
      rw [hn] at p2 ⊢
      have hK3 : K n = 3 := by
        unfold eatT at h1'
        by_cases hk : K n = 3
        · exact hk
        · rw [if_neg hk] at h1'; exact absurd h1' (fun z => isL_r z)
      have hgd : gdT K n := hR.2.2.2
      have hv := hT.2.2.1 n hK3
      have h6 : t 6 n = lN (v n) := (hT.1 n hgd).2.2.1 hK3
      refine ab_go ok_Re_acceptInt 3 rfl ?_
      show ab_Z m_Re_acceptInt _ _ _ 12 [_, _, _, _] [_, _] _
      refine ab_cl ok_Re_acceptInt rfl [_, _] [] rfl ⟨_, _, rfl, rfl, Or.inl ⟨_, _, rfl, rfl⟩⟩ (Nat.le_of_ble_eq_true rfl) (t_To_valueAt d fm X s1 t p2) ?_
      rintro _ _ ⟨rfl, rfl⟩
      show ab_Z m_Re_acceptInt _ _ _ 13 [_, _, _, _] [_] _
      rw [h6]
      refine ab_go ok_Re_acceptInt 4 rfl ?_
      show ab_Z m_Re_acceptInt _ _ _ 17 [_, _, _, _] [_, _] _
      rw [lN_i]
      obtain ⟨n1, hn1⟩ : ∃ n1, eatT K 3 n = .inl n1 := by
        cases hx : eatT K 3 n with
        | inl n1 => exact ⟨n1, rfl⟩
        | inr e => rw [hx] at h1'; exact absurd h1' (fun z => isL_r z)
      have hint : (bnd (.inl n : Rs Nat) fun n => intT K v m n l) = .inl (n1, v n, if m < v n then ltU l 5 n else l) := by
        rw [bnd_l]
        unfold intT
        rw [hn1]
        rfl
      rw [hint]
      refine ab_br ok_Re_acceptInt rfl rfl ?_ ?_
      · intro h2
        show ab_Z m_Re_acceptInt _ _ _ 22 [_, _, _, _] [] _
        have h2' := (nI_leI (show v n < 2 ^ 31 by omega) (show m < 2 ^ 31 by omega)).mp h2
        refine ab_go ok_Re_acceptInt 1 rfl ?_
        show ab_Z m_Re_acceptInt _ _ _ 23 [_, _, _, _] [_] _
        exact ab_rI ok_Re_acceptInt rfl (⟨nI (v n), s1, rfl, rfl, k1.l, hR1, ⟨l, k1.lt hl⟩, fun a ha => by cases ha; exact ⟨rfl, by rw [if_neg (by omega)]; exact k1.lt hl⟩⟩)
      · intro h2
        show ab_Z m_Re_acceptInt _ _ _ 18 [_, _, _, _] [] _
        have h2' : m < v n := by
          rcases Nat.lt_or_ge m (v n) with h | h
          · exact h
          · exact absurd ((nI_leI (show v n < 2 ^ 31 by omega) (show m < 2 ^ 31 by omega)).mpr h) h2
        refine ab_go ok_Re_acceptInt 3 rfl ?_
        show ab_Z m_Re_acceptInt _ _ _ 21 [_, _, _, _] [_, _, _] _
        refine ab_cl ok_Re_acceptInt rfl [_, _, _] [] rfl ⟨_, _, rfl, rfl, Or.inl ⟨_, _, rfl, rfl⟩⟩ (Nat.le_of_ble_eq_true rfl) (t_Re_failLate d fm X s1 t (k1.lt hl) (c := 5) (by decide) (by decide) p2 _ _ rfl rfl) ?_
        rintro _ _ ⟨rfl, s2, rfl, k2, hl2⟩
        show ab_Z m_Re_acceptInt _ _ _ 22 [_, _, _, _] [] _
        refine ab_go ok_Re_acceptInt 1 rfl ?_
        show ab_Z m_Re_acceptInt _ _ _ 23 [_, _, _, _] [_] _
        have hR2 : Rd s2 K (eatT K 3 n) := hR1.of (k2 8 1 (by omega)) (k2 8 2 (by omega)) (k2 8 3 (by omega))
        exact ab_rI ok_Re_acceptInt rfl (⟨nI (v n), s2, rfl, rfl, k1.l.tr (fun c k hc => k2 c k (fun z => hc z.1)), hR2, ⟨_, hl2⟩, fun a ha => by cases ha; exact ⟨rfl, by rw [if_pos h2']; exact hl2⟩⟩)
end

