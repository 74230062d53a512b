theorem wd_ok : ∀ w ∈ wdL, (∀ x ∈ w, 1 ≤ x ∧ x ≤ 26) ∧ w.length ≤ 8 := by decide
theorem wk_at {l : List Nat} {i : Nat} (h : wdL[i]? = some l) (hn : ∀ j, j < i → wdL[j]? ≠ some l) : wkF l wdL 0 = 256 + i := by
  rcases wk_r l wdL 0 with h1 | ⟨k, h1, h2, h3, h4⟩
  · have hi : i < wdL.length := (List.getElem?_eq_some_iff.mp h).1
    have hno : ∀ (ws : List (List Nat)) (k i : Nat), ws[i]? = some l → wkF l ws k ≠ 2 := by
      intro ws
      induction ws with
      | nil => intro k i hi; simp at hi
      | cons w r ih =>
        intro k i hi
        rw [wkF]
        by_cases hw : w = l
        · rw [if_pos hw]; omega
        · rw [if_neg hw]
          match i, hi with
          | 0, hi => exact absurd (by simpa using hi) hw
          | i + 1, hi => exact ih (k + 1) i (by simpa using hi)
    exact absurd h1 (hno wdL 0 i h)
  · rcases Nat.lt_trichotomy i k with h5 | h5 | h5
    · exact absurd h (h4 i h5)
    · rw [h2, h5, Nat.zero_add]
    · exact absurd h3 (hn k h5)
theorem cd_lt63 {B : Nat} (hB : 27 ≤ B) (hB2 : B ≤ 32) {l : List Nat} (h : ∀ x ∈ l, 1 ≤ x ∧ x ≤ 26) (hl : l.length ≤ 8) : cdL B l < 2 ^ 63 := by
  have h1 := cdL_lt hB l.length l rfl h
  have h2 : B ^ l.length ≤ 32 ^ 8 := Nat.le_trans (Nat.pow_le_pow_left hB2 _) (Nat.pow_le_pow_right (by decide) hl)
  have h3 : (32 : Nat) ^ 8 ≤ 2 ^ 63 := by decide
  omega
theorem cd_eq {B : Nat} (hB : 27 ≤ B) (hB2 : B ≤ 32) {l l' : List Nat} (h : ∀ x ∈ l, 1 ≤ x ∧ x ≤ 26) (hl : l.length ≤ 8) (h' : ∀ x ∈ l', 1 ≤ x ∧ x ≤ 26) (hl' : l'.length ≤ 8) : lN (cdL B l) = lN (cdL B l') ↔ l = l' := by
  rw [pk_lEQ (cd_lt63 hB hB2 h hl) (cd_lt63 hB hB2 h' hl')]
  exact ⟨fun z => cdL_inj hB _ l l' rfl h h' z, fun z => by rw [z]⟩
/-- the class's words -/
def WdC (t : Nat → Nat → Int64) : Prop := ∀ k w, wdL[k]? = some w → t 7 k = lN (cdL 32 w)
def KT (s s' : Nat → Nat → Int32) : Prop := ∀ c k, c ≠ 4 → c ≠ 5 → ¬ (c = 3 ∧ k = 4) → s' c k = s c k
def KTt (t t' : Nat → Nat → Int64) : Prop := ∀ c, c ≠ 6 → t' c = t c
theorem KT.rf (s : Nat → Nat → Int32) : KT s s := fun _ _ _ _ _ => rfl
theorem KT.tr {a b c : Nat → Nat → Int32} (h : KT a b) (g : KT b c) : KT a c := fun x k p q r => (g x k p q r).trans (h x k p q r)
theorem KTt.rf (t : Nat → Nat → Int64) : KTt t t := fun _ _ => rfl
theorem KTt.tr {a b c : Nat → Nat → Int64} (h : KTt a b) (g : KTt b c) : KTt a c := fun x p => (g x p).trans (h x p)
/-- the tokens below N stand in the class's rows -/
def TkR (b : Nat → Int32) (L : Nat) (s : Nat → Nat → Int32) (t : Nat → Nat → Int64) (n : Nat) : Prop := s 4 n = nI (tkK b L (tkP b L n)) ∧ s 5 n = nI (tkP b L n) ∧ (tkK b L (tkP b L n) = 3 → t 6 n = lN (tkV' b L (tkP b L n))) ∧ (tkK b L (tkP b L n) = 2 → t 6 n = lN (cdL 32 (tkN b L (tkP b L n))))
def TkS (b : Nat → Int32) (L : Nat) (s : Nat → Nat → Int32) (t : Nat → Nat → Int64) (N : Nat) : Prop := s 3 4 = nI N ∧ ∀ n, n < N → TkR b L s t n
def addS (s : Nat → Nat → Int32) (N : Nat) (k p : Int32) : Nat → Nat → Int32 := ab_up (ab_up (ab_up s 4 N k) 5 N p) 3 4 (nI (N + 1))
theorem addS_k (s : Nat → Nat → Int32) (N : Nat) (k p : Int32) : KT s (addS s N k p) := by
  intro c j h1 h2 h3
  unfold addS
  by_cases hc : c = 3
  · subst hc
    rw [ab_up_n (fun z => h3 ⟨rfl, z⟩), ab_up_o h2, ab_up_o h1]
  · rw [ab_up_o hc, ab_up_o h2, ab_up_o h1]
theorem TkS.add {b : Nat → Int32} {L N : Nat} {s : Nat → Nat → Int32} {t : Nat → Nat → Int64} {v : Int64} (h : TkS b L s t N) (h1 : tkK b L (tkP b L N) = 3 → v = lN (tkV' b L (tkP b L N))) (h2 : tkK b L (tkP b L N) = 2 → v = lN (cdL 32 (tkN b L (tkP b L N)))) : TkS b L (addS s N (nI (tkK b L (tkP b L N))) (nI (tkP b L N))) (ab_up t 6 N v) (N + 1) := by
  refine ⟨ab_up_s .., fun n hn => ?_⟩
  have e4 : ∀ j, addS s N (nI (tkK b L (tkP b L N))) (nI (tkP b L N)) 4 j = ab_up s 4 N (nI (tkK b L (tkP b L N))) 4 j := fun j => by
    unfold addS
    rw [ab_up_o (by decide), ab_up_o (by decide)]
  have e5 : ∀ j, addS s N (nI (tkK b L (tkP b L N))) (nI (tkP b L N)) 5 j = ab_up (ab_up s 4 N (nI (tkK b L (tkP b L N)))) 5 N (nI (tkP b L N)) 5 j := fun j => by
    unfold addS
    rw [ab_up_o (by decide)]
  unfold TkR
  rw [e4, e5]
  by_cases hnN : n = N
  · subst hnN
    rw [ab_up_s, ab_up_s, ab_up_s]
    exact ⟨rfl, rfl, h1, h2⟩
  · rw [ab_up_n hnN, ab_up_n hnN, ab_up_n hnN, ab_up_o (by decide)]
    exact h.2 n (by omega)
section
variable (d : Nat) (fm : Value) (X : Nat × (Nat → Int32)) (s : Nat → Nat → Int32) (t : Nat → Nat → Int64)
theorem t_JS_coder (h : ab_H) : ab_T g_JS_coder d (0, 0) [.ref 9003] h (PI 0 h) := by
  refine ab_T_of (M := m_JS_coder) rfl rfl (Nat.le_of_ble_eq_true rfl) ?_
  show ab_Z m_JS_coder _ _ _ 0 [_] [] _
  refine ab_go ok_JS_coder 1 rfl ?_
  show ab_Z m_JS_coder _ _ _ 1 [_] [_] _
  refine ab_go ok_JS_coder 1 rfl ?_
  show ab_Z m_JS_coder _ _ _ 2 [_] [] _
  refine ab_go ok_JS_coder 3 rfl ?_
  show ab_Z m_JS_coder _ _ _ 6 [_] [_] _
  exact ab_retZ (ab_okat ok_JS_coder (i := 6) (a := .inr (.inl 5)) rfl).1 (ab_okat ok_JS_coder (i := 6) (a := .inr (.inl 5)) rfl).2 rfl ⟨rfl, rfl⟩
theorem t_JS_length : ab_T g_JS_length (d + 1) (0, 0) [.ref 9003] (HA fm X s t) (PI 9 (HA fm X s t)) := by
  refine ab_T_of (M := m_JS_length) rfl rfl (Nat.le_of_ble_eq_true rfl) ?_
  show ab_Z m_JS_length _ _ _ 0 [_] [] _
  refine ab_go ok_JS_length 4 rfl ?_
  show ab_Z m_JS_length _ _ _ 4 [_] [_, _] _
  refine ab_cl ok_JS_length rfl [_] [_] rfl ⟨_, _, rfl, rfl, Or.inr ⟨Or.inr rfl, rfl⟩⟩ (Nat.le_of_ble_eq_true rfl) (t_JS_coder d _) ?_
  rintro _ _ ⟨rfl, rfl⟩
  show ab_Z m_JS_length _ _ _ 5 [_] [_, _] _
  refine ab_go ok_JS_length 1 rfl ?_
  show ab_Z m_JS_length _ _ _ 6 [_] [_] _
  exact ab_rI ok_JS_length rfl (⟨rfl, rfl⟩)
theorem t_JS_indexOf1 {c : Nat} (hc : c < 256) : ab_T g_JS_indexOf1 (d + 2) (0, 0) [.ref 9003, .int (nI c), .int 0] (HA fm X s t) (fun v h => h = HA fm X s t ∧ ∃ r : Int32, v = some (.int r) ∧ (r < 0 ↔ sgC c = false)) := by
  refine ab_T_of (M := m_JS_indexOf1) rfl rfl (Nat.le_of_ble_eq_true rfl) ?_
  show ab_Z m_JS_indexOf1 _ _ _ 0 [_, _, _] [] _
  refine ab_go ok_JS_indexOf1 1 rfl ?_
  show ab_Z m_JS_indexOf1 _ _ _ 1 [_, _, _] [_] _
  refine ab_cl ok_JS_indexOf1 rfl [_] [] rfl ⟨_, _, rfl, rfl, Or.inr ⟨Or.inr rfl, rfl⟩⟩ (Nat.le_of_ble_eq_true rfl) (t_JS_isLatin1 (d + 1) _) ?_
  rintro _ _ ⟨rfl, rfl⟩
  show ab_Z m_JS_indexOf1 _ _ _ 2 [_, _, _] [_] _
  refine ab_go ok_JS_indexOf1 1 rfl ?_
  show ab_Z m_JS_indexOf1 _ _ _ 3 [_, _, _] [] _
  refine ab_go ok_JS_indexOf1 5 rfl ?_
  show ab_Z m_JS_indexOf1 _ _ _ 8 [_, _, _] [_, _, _, _] _
  refine ab_cl ok_JS_indexOf1 rfl [_] [_, _, _] rfl ⟨_, _, rfl, rfl, Or.inr ⟨Or.inr rfl, rfl⟩⟩ (Nat.le_of_ble_eq_true rfl) (t_JS_length d fm X s t) ?_
  rintro _ _ ⟨rfl, rfl⟩
  show ab_Z m_JS_indexOf1 _ _ _ 9 [_, _, _] [_, _, _, _] _
  refine ab_cl ok_JS_indexOf1 rfl [_, _, _, _] [] rfl rfl (Nat.le_of_ble_eq_true rfl) (t_JL_indexOf d fm X s t hc) ?_
  rintro _ _ ⟨rfl, r, rfl, hr⟩
  show ab_Z m_JS_indexOf1 _ _ _ 10 [_, _, _] [_] _
  refine ab_go ok_JS_indexOf1 1 rfl ?_
  show ab_Z m_JS_indexOf1 _ _ _ 18 [_, _, _] [_] _
  exact ab_rI ok_JS_indexOf1 rfl (⟨rfl, r, rfl, hr⟩)
theorem t_JS_indexOf0 {c : Nat} (hc : c < 256) : ab_T g_JS_indexOf0 (d + 3) (0, 0) [.ref 9003, .int (nI c)] (HA fm X s t) (fun v h => h = HA fm X s t ∧ ∃ r : Int32, v = some (.int r) ∧ (r < 0 ↔ sgC c = false)) := by
  refine ab_T_of (M := m_JS_indexOf0) rfl rfl (Nat.le_of_ble_eq_true rfl) ?_
  show ab_Z m_JS_indexOf0 _ _ _ 0 [_, _] [] _
  refine ab_go ok_JS_indexOf0 3 rfl ?_
  show ab_Z m_JS_indexOf0 _ _ _ 3 [_, _] [_, _, _] _
  refine ab_cl ok_JS_indexOf0 rfl [_, _, _] [] rfl ⟨_, _, rfl, rfl, Or.inr ⟨Or.inr rfl, rfl⟩⟩ (Nat.le_of_ble_eq_true rfl) (t_JS_indexOf1 d fm X s t hc) ?_
  rintro _ _ ⟨rfl, r, rfl, hr⟩
  show ab_Z m_JS_indexOf0 _ _ _ 4 [_, _] [_] _
  exact ab_rI ok_JS_indexOf0 rfl (⟨rfl, r, rfl, hr⟩)
theorem t_To_kindAt {n N : Nat} (hN : s 3 4 = nI N) (hN4 : N ≤ 401) (hn : n < N) : ab_T g_To_kindAt d (0, 0) [.ref 3, .int (nI n)] (HA fm X s t) (PI (s 4 n) (HA fm X s t)) := by
  refine ab_T_of (M := m_To_kindAt) rfl rfl (Nat.le_of_ble_eq_true rfl) ?_
  show ab_Z m_To_kindAt _ _ _ 0 [_, _] [] _
  refine ab_go ok_To_kindAt 1 rfl ?_
  show ab_Z m_To_kindAt _ _ _ 1 [_, _] [_] _
  refine ab_br ok_To_kindAt rfl rfl ?_ ?_
  · intro h1
    show ab_Z m_To_kindAt _ _ _ 16 [_, _] [] _
    exact absurd h1 (nI_l0 (by omega))
  · intro h1
    show ab_Z m_To_kindAt _ _ _ 2 [_, _] [] _
    refine ab_go ok_To_kindAt 3 rfl ?_
    show ab_Z m_To_kindAt _ _ _ 5 [_, _] [_, _] _
    rw [hN]
    refine ab_br ok_To_kindAt rfl rfl ?_ ?_
    · intro h2
      show ab_Z m_To_kindAt _ _ _ 16 [_, _] [] _
      exact absurd h2 (lp_in (by omega) hn)
    · intro h2
      show ab_Z m_To_kindAt _ _ _ 6 [_, _] [] _
      refine ab_go ok_To_kindAt 4 rfl ?_
      show ab_Z m_To_kindAt _ _ _ 10 [_, _] [_, _] _
      refine ab_br ok_To_kindAt rfl rfl ?_ ?_
      · intro h3
        show ab_Z m_To_kindAt _ _ _ 16 [_, _] [] _
        exact absurd h3 (lp_in (N := 401) (by decide) (by omega))
      · intro h3
        show ab_Z m_To_kindAt _ _ _ 11 [_, _] [] _
        refine ab_go ok_To_kindAt 3 rfl ?_
        show ab_Z m_To_kindAt _ _ _ 14 [_, _] [_, _] _
        refine ab_ia ok_To_kindAt rfl rfl (k := n) (by first | rfl | (simp only [LL1, LL2, LL3, LL4, LL5, LL6, LL7, LL8, LL10, LL15, LL18, LL20, LL21, LL22, LL23, LL24, LL32, LL39, LL40, LL130, LL420, pk_mul, nI_add]; done) | (simp only [LL1, LL2, LL3, LL4, LL5, LL6, LL7, LL8, LL10, LL15, LL18, LL20, LL21, LL22, LL23, LL24, LL32, LL39, LL40, LL130, LL420, pk_mul, nI_add]; congr 1; omega)) (by omega) (Nat.le_of_ble_eq_true rfl) ?_
        show ab_Z m_To_kindAt _ _ _ 15 [_, _] [_] _
        refine ab_go ok_To_kindAt 1 rfl ?_
        show ab_Z m_To_kindAt _ _ _ 17 [_, _] [_] _
        exact ab_rI ok_To_kindAt rfl (⟨rfl, rfl⟩)
theorem t_To_placeAt {n : Nat} (hn : n ≤ 400) : ab_T g_To_placeAt d (0, 0) [.ref 3, .int (nI n)] (HA fm X s t) (PI (s 5 n) (HA fm X s t)) := by
  refine ab_T_of (M := m_To_placeAt) rfl rfl (Nat.le_of_ble_eq_true rfl) ?_
  show ab_Z m_To_placeAt _ _ _ 0 [_, _] [] _
  refine ab_go ok_To_placeAt 1 rfl ?_
  show ab_Z m_To_placeAt _ _ _ 1 [_, _] [_] _
  refine ab_br ok_To_placeAt rfl rfl ?_ ?_
  · intro h1
    show ab_Z m_To_placeAt _ _ _ 12 [_, _] [] _
    exact absurd h1 (nI_l0 (by omega))
  · intro h1
    show ab_Z m_To_placeAt _ _ _ 2 [_, _] [] _
    refine ab_go ok_To_placeAt 4 rfl ?_
    show ab_Z m_To_placeAt _ _ _ 6 [_, _] [_, _] _
    refine ab_br ok_To_placeAt rfl rfl ?_ ?_
    · intro h3
      show ab_Z m_To_placeAt _ _ _ 12 [_, _] [] _
      exact absurd h3 (lp_in (N := 401) (by decide) (by omega))
    · intro h3
      show ab_Z m_To_placeAt _ _ _ 7 [_, _] [] _
      refine ab_go ok_To_placeAt 3 rfl ?_
      show ab_Z m_To_placeAt _ _ _ 10 [_, _] [_, _] _
      refine ab_ia ok_To_placeAt rfl rfl (k := n) (by first | rfl | (simp only [LL1, LL2, LL3, LL4, LL5, LL6, LL7, LL8, LL10, LL15, LL18, LL20, LL21, LL22, LL23, LL24, LL32, LL39, LL40, LL130, LL420, pk_mul, nI_add]; done) | (simp only [LL1, LL2, LL3, LL4, LL5, LL6, LL7, LL8, LL10, LL15, LL18, LL20, LL21, LL22, LL23, LL24, LL32, LL39, LL40, LL130, LL420, pk_mul, nI_add]; congr 1; omega)) (by omega) (Nat.le_of_ble_eq_true rfl) ?_
      show ab_Z m_To_placeAt _ _ _ 11 [_, _] [_] _
      refine ab_go ok_To_placeAt 1 rfl ?_
      show ab_Z m_To_placeAt _ _ _ 13 [_, _] [_] _
      exact ab_rI ok_To_placeAt rfl (⟨rfl, rfl⟩)
theorem t_To_valueAt {n : Nat} (hn : n ≤ 400) : ab_T g_To_valueAt d (0, 0) [.ref 3, .int (nI n)] (HA fm X s t) (PL (t 6 n) (HA fm X s t)) := by
  refine ab_T_of (M := m_To_valueAt) rfl rfl (Nat.le_of_ble_eq_true rfl) ?_
  show ab_Z m_To_valueAt _ _ _ 0 [_, _] [] _
  refine ab_go ok_To_valueAt 1 rfl ?_
  show ab_Z m_To_valueAt _ _ _ 1 [_, _] [_] _
  refine ab_br ok_To_valueAt rfl rfl ?_ ?_
  · intro h1
    show ab_Z m_To_valueAt _ _ _ 12 [_, _] [] _
    exact absurd h1 (nI_l0 (by omega))
  · intro h1
    show ab_Z m_To_valueAt _ _ _ 2 [_, _] [] _
    refine ab_go ok_To_valueAt 4 rfl ?_
    show ab_Z m_To_valueAt _ _ _ 6 [_, _] [_, _] _
    refine ab_br ok_To_valueAt rfl rfl ?_ ?_
    · intro h3
      show ab_Z m_To_valueAt _ _ _ 12 [_, _] [] _
      exact absurd h3 (lp_in (N := 401) (by decide) (by omega))
    · intro h3
      show ab_Z m_To_valueAt _ _ _ 7 [_, _] [] _
      refine ab_go ok_To_valueAt 3 rfl ?_
      show ab_Z m_To_valueAt _ _ _ 10 [_, _] [_, _] _
      refine ab_la ok_To_valueAt rfl rfl (k := n) (by first | rfl | (simp only [LL1, LL2, LL3, LL4, LL5, LL6, LL7, LL8, LL10, LL15, LL18, LL20, LL21, LL22, LL23, LL24, LL32, LL39, LL40, LL130, LL420, pk_mul, nI_add]; done) | (simp only [LL1, LL2, LL3, LL4, LL5, LL6, LL7, LL8, LL10, LL15, LL18, LL20, LL21, LL22, LL23, LL24, LL32, LL39, LL40, LL130, LL420, pk_mul, nI_add]; congr 1; omega)) (by omega) (Nat.le_of_ble_eq_true rfl) ?_
      show ab_Z m_To_valueAt _ _ _ 11 [_, _] [_] _
      refine ab_go ok_To_valueAt 1 rfl ?_
      show ab_Z m_To_valueAt _ _ _ 13 [_, _] [_] _
      exact ab_rL ok_To_valueAt rfl (⟨rfl, rfl⟩)
theorem t_To_kindOf (hW : WdC t) {l : List Nat} (h : ∀ x ∈ l, 1 ≤ x ∧ x ≤ 26) (hl : l.length ≤ 8) : ab_T g_To_kindOf d (0, 0) [.ref 3, .long (lN (cdL 32 l))] (HA fm X s t) (PI (nI (wkF l wdL 0)) (HA fm X s t)) := by
  refine ab_T_of (M := m_To_kindOf) rfl rfl (Nat.le_of_ble_eq_true rfl) ?_
  show ab_Z m_To_kindOf _ _ _ 0 [_, _, _, _] [] _
  refine ab_go ok_To_kindOf 2 rfl ?_
  show ab_Z m_To_kindOf _ _ _ 2 [_, _, _, _] [] _
  refine lp_dn 21 (fun k => (∀ j, j < k → wdL[j]? ≠ some l) → ab_Z m_To_kindOf d (0, 0) (PI (nI (wkF l wdL 0)) (HA fm X s t)) 2 [some (.ref 3), some (.long (lN (cdL 32 l))), none, some (.int (nI k))] [] (HA fm X s t)) ?_ ?_ (fun j hj => absurd hj (by omega))
  · intro hn
    refine ab_go ok_To_kindOf 4 rfl ?_
    show ab_Z m_To_kindOf _ _ _ 6 [_, _, _, _] [_, _] _
    refine ab_go ok_To_kindOf 1 rfl ?_
    show ab_Z m_To_kindOf _ _ _ 20 [_, _, _, _] [] _
    refine ab_go ok_To_kindOf 1 rfl ?_
    show ab_Z m_To_kindOf _ _ _ 21 [_, _, _, _] [_] _
    exact ab_rI ok_To_kindOf rfl (⟨by rw [wk_no l wdL 0 hn]; rfl, rfl⟩)
  · intro k hk ih hn
    obtain ⟨w, hw⟩ : ∃ w, wdL[k]? = some w := ⟨_, List.getElem?_eq_getElem (show k < wdL.length from hk)⟩
    have hwok := wd_ok w (List.mem_of_getElem? hw)
    have hce := cd_eq (B := 32) (by decide) (by decide) hwok.1 hwok.2 h hl
    refine ab_go ok_To_kindOf 4 rfl ?_
    show ab_Z m_To_kindOf _ _ _ 6 [_, _, _, _] [_, _] _
    refine ab_br ok_To_kindOf rfl rfl ?_ ?_
    · intro h1
      show ab_Z m_To_kindOf _ _ _ 20 [_, _, _, _] [] _
      exact absurd h1 (lp_in (N := 21) (by decide) hk)
    · intro h1
      show ab_Z m_To_kindOf _ _ _ 7 [_, _, _, _] [] _
      refine ab_go ok_To_kindOf 3 rfl ?_
      show ab_Z m_To_kindOf _ _ _ 10 [_, _, _, _] [_, _] _
      refine ab_la ok_To_kindOf rfl rfl (k := k) (by first | rfl | (simp only [LL1, LL2, LL3, LL4, LL5, LL6, LL7, LL8, LL10, LL15, LL18, LL20, LL21, LL22, LL23, LL24, LL32, LL39, LL40, LL130, LL420, pk_mul, nI_add]; done) | (simp only [LL1, LL2, LL3, LL4, LL5, LL6, LL7, LL8, LL10, LL15, LL18, LL20, LL21, LL22, LL23, LL24, LL32, LL39, LL40, LL130, LL420, pk_mul, nI_add]; congr 1; omega)) (by omega) (Nat.le_of_ble_eq_true rfl) ?_
      show ab_Z m_To_kindOf _ _ _ 11 [_, _, _, _] [_] _
      rw [hW k w hw]
      refine ab_go ok_To_kindOf 2 rfl ?_
      show ab_Z m_To_kindOf _ _ _ 13 [_, _, _, _] [_] _
      refine ab_br ok_To_kindOf rfl rfl ?_ ?_
      · intro h2
        show ab_Z m_To_kindOf _ _ _ 14 [_, _, _, _] [] _
        have h2' := hce.mp (lcmp_eq.mp h2)
        subst h2'
        refine ab_go ok_To_kindOf 3 rfl ?_
        show ab_Z m_To_kindOf _ _ _ 17 [_, _, _, _] [_] _
        exact ab_rI ok_To_kindOf rfl (⟨by rw [wk_at hw hn, ← nI_add]; rfl, rfl⟩)
      · intro h2
        show ab_Z m_To_kindOf _ _ _ 18 [_, _, _, _] [] _
        have h2' : w ≠ l := fun z => h2 (lcmp_eq.mpr (hce.mpr z))
        have ih2 := ih (fun j hj => by
          by_cases hjk : j = k
          · rw [hjk, hw]; exact fun z => h2' (Option.some.inj z)
          · exact hn j (by omega))
        rw [nI_succ] at ih2
        refine ab_go ok_To_kindOf 2 rfl ?_
        show ab_Z m_To_kindOf _ _ _ 2 [_, _, _, _] [] _
        exact ih2
theorem t_To_add {N : Nat} (hN : s 3 4 = nI N) (hN4 : N < 401) (k p : Int32) (v : Int64) : ab_T g_To_add (d + 1) (0, 0) [.ref 3, .int k, .int p, .long v] (HA fm X s t) (PV (HA fm X (addS s N k p) (ab_up t 6 N v))) := by
  refine ab_T_of (M := m_To_add) rfl rfl (Nat.le_of_ble_eq_true rfl) ?_
  show ab_Z m_To_add _ _ _ 0 [_, _, _, _, _] [] _
  refine ab_go ok_To_add 5 rfl ?_
  show ab_Z m_To_add _ _ _ 5 [_, _, _, _, _] [_, _, _] _
  rw [hN]
  refine ab_cl ok_To_add rfl [_, _, _] [] rfl rfl (Nat.le_of_ble_eq_true rfl) (t_SF_put_4 d fm X s t _ N k hN4 rfl) ?_
  rintro _ _ ⟨rfl, rfl⟩
  show ab_Z m_To_add _ _ _ 6 [_, _, _, _, _] [] _
  refine ab_go ok_To_add 5 rfl ?_
  show ab_Z m_To_add _ _ _ 11 [_, _, _, _, _] [_, _, _] _
  rw [show ab_up s 4 N k 3 4 = nI N from by rw [ab_up_o (by decide)]; exact hN]
  refine ab_cl ok_To_add rfl [_, _, _] [] rfl rfl (Nat.le_of_ble_eq_true rfl) (t_SF_put_5 d fm X _ t _ N p hN4 rfl) ?_
  rintro _ _ ⟨rfl, rfl⟩
  show ab_Z m_To_add _ _ _ 12 [_, _, _, _, _] [] _
  refine ab_go ok_To_add 5 rfl ?_
  show ab_Z m_To_add _ _ _ 17 [_, _, _, _, _] [_, _, _] _
  rw [show ab_up (ab_up s 4 N k) 5 N p 3 4 = nI N from by rw [ab_up_o (by decide), ab_up_o (by decide)]; exact hN]
  refine ab_cl ok_To_add rfl [_, _, _] [] rfl rfl (Nat.le_of_ble_eq_true rfl) (t_SF_putLong_6 d fm X _ t _ N v hN4 rfl) ?_
  rintro _ _ ⟨rfl, rfl⟩
  show ab_Z m_To_add _ _ _ 18 [_, _, _, _, _] [] _
  refine ab_go ok_To_add 6 rfl ?_
  show ab_Z m_To_add _ _ _ 24 [_, _, _, _, _] [] _
  rw [show ab_up (ab_up s 4 N k) 5 N p 3 4 = nI N from by rw [ab_up_o (by decide), ab_up_o (by decide)]; exact hN]
  exact ab_rV ok_To_add rfl (⟨rfl, by unfold addS; rw [nI_succ]⟩)
end

