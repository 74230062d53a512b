/-! the reference's tokens -/
def rkF (k : Nat) : Nat := if k = 0 then 0 else if k = 1 then 3 else if k = 2 then 1 else if k = 3 then 2 else if k = 59 then 4 else if k = 61 then 5 else if k = 40 then 6 else if k = 41 then 7 else if k = 43 then 8 else if k = 45 then 9 else if k = 42 then 10 else if k = 47 then 15 else if k = 60 then 13 else k - 236
theorem rk_w (i : Nat) : rkF (256 + i) = 20 + i := by
  unfold rkF
  rw [if_neg (by omega), if_neg (by omega), if_neg (by omega), if_neg (by omega), if_neg (by omega), if_neg (by omega), if_neg (by omega), if_neg (by omega), if_neg (by omega), if_neg (by omega), if_neg (by omega), if_neg (by omega), if_neg (by omega)]
  omega
def WdR (t : Nat → Nat → Int64) : Prop := ∀ k w, wdL[k]? = some w → t 88 k = lN (cdL 27 w)
theorem wd_nd : ∀ i, i < 21 → ∀ j, j < 21 → wdL[i]? = wdL[j]? → i = j := by decide +kernel
def KU (s s' : Nat → Nat → Int32) : Prop := ∀ c k, c ≠ 84 → c ≠ 85 → c ≠ 86 → ¬ (c = 81 ∧ k = 10) → s' c k = s c k
def KUt (t t' : Nat → Nat → Int64) : Prop := ∀ c, c ≠ 87 → t' c = t c
theorem KU.rf (s : Nat → Nat → Int32) : KU s s := fun _ _ _ _ _ _ => rfl
theorem KU.tr {a b c : Nat → Nat → Int32} (h : KU a b) (g : KU b c) : KU a c := fun x k p q r u => (g x k p q r u).trans (h x k p q r u)
theorem KUt.tr {a b c : Nat → Nat → Int64} (h : KUt a b) (g : KUt b c) : KUt a c := fun x p => (g x p).trans (h x p)
def TrR (b : Nat → Int32) (L : Nat) (s : Nat → Nat → Int32) (t : Nat → Nat → Int64) (n : Nat) : Prop := s 84 n = nI (rkF (tkK b L (tkP b L n))) ∧ s 85 n = nI (tkP b L n) ∧ (tkK b L (tkP b L n) = 3 → s 86 n = nI (tkV' b L (tkP b L n))) ∧ (tkK b L (tkP b L n) = 2 → t 87 n = lN (cdL 27 (tkN b L (tkP b L n))))
def TrS (b : Nat → Int32) (L : Nat) (s : Nat → Nat → Int32) (t : Nat → Nat → Int64) (N : Nat) : Prop := s 81 10 = nI N ∧ ∀ n, n < N → TrR b L s t n
def tokS (s : Nat → Nat → Int32) (N : Nat) (k p v : Int32) : Nat → Nat → Int32 := ab_up (ab_up (ab_up (ab_up s 84 N k) 85 N p) 86 N v) 81 10 (nI (N + 1))
theorem tokS_k (s : Nat → Nat → Int32) (N : Nat) (k p v : Int32) : KU s (tokS s N k p v) := by
  intro c j h1 h2 h3 h4
  unfold tokS
  by_cases hc : c = 81
  · subst hc
    rw [ab_up_n (fun z => h4 ⟨rfl, z⟩), ab_up_o h3, ab_up_o h2, ab_up_o h1]
  · rw [ab_up_o hc, ab_up_o h3, ab_up_o h2, ab_up_o h1]
theorem TrS.add {b : Nat → Int32} {L N : Nat} {s : Nat → Nat → Int32} {t : Nat → Nat → Int64} {v : Int32} {w : Int64} (h : TrS b L s t N) (h1 : tkK b L (tkP b L N) = 3 → v = nI (tkV' b L (tkP b L N))) (h2 : tkK b L (tkP b L N) = 2 → w = lN (cdL 27 (tkN b L (tkP b L N)))) : TrS b L (tokS s N (nI (rkF (tkK b L (tkP b L N)))) (nI (tkP b L N)) v) (ab_up t 87 N w) (N + 1) := by
  refine ⟨ab_up_s .., fun n hn => ?_⟩
  have e : ∀ c j, c ≠ 81 → tokS s N (nI (rkF (tkK b L (tkP b L N)))) (nI (tkP b L N)) v c j = ab_up (ab_up (ab_up s 84 N (nI (rkF (tkK b L (tkP b L N))))) 85 N (nI (tkP b L N))) 86 N v c j := fun c j hc => by
    unfold tokS
    rw [ab_up_o hc]
  unfold TrR
  rw [e 84 _ (by decide), e 85 _ (by decide), e 86 _ (by decide), ab_up_o (show (84 : Nat) ≠ 86 by decide), ab_up_o (show (84 : Nat) ≠ 85 by decide), ab_up_o (show (85 : Nat) ≠ 86 by decide)]
  by_cases hnN : n = N
  · subst hnN
    rw [ab_up_s, ab_up_s, ab_up_s, ab_up_s]
    exact ⟨rfl, rfl, h1, h2⟩
  · rw [ab_up_n hnN, ab_up_n hnN, ab_up_n hnN, ab_up_n hnN, ab_up_o (show (85 : Nat) ≠ 84 by decide), ab_up_o (show (86 : Nat) ≠ 85 by decide), ab_up_o (show (86 : Nat) ≠ 84 by decide)]
    exact h.2 n (by omega)
def chR (b : Nat → Int32) (L i : Nat) : Int32 := if i < L then nI (byN b i) else 0
theorem chR_I (b : Nat → Int32) {L i : Nat} (h : i < L) : chR b L i = chI b L i := by unfold chR chI; rw [if_pos h, if_pos h]
theorem lt_R (b : Nat → Int32) (L i : Nat) : bI (97 ≤ (chR b L i).toInt ∧ (chR b L i).toInt ≤ 122) = bB (ltC (chN b L i)) := by
  by_cases h : i < L
  · rw [chR_I b h]; exact lt_I b L i
  · unfold chR; rw [if_neg h, ch_hi (by omega)]; decide
theorem dg_R (b : Nat → Int32) (L i : Nat) : bI (48 ≤ (chR b L i).toInt ∧ (chR b L i).toInt ≤ 57) = bB (dgC (chN b L i)) := by
  by_cases h : i < L
  · rw [chR_I b h]; exact dg_I b L i
  · unfold chR; rw [if_neg h, ch_hi (by omega)]; decide
theorem bk_s {b : Nat → Int32} {L i : Nat} (hi : i < L) (h : blC (chN b L i) = true) : bkE b L i = bkE b L (i + 1) := by
  unfold bkE
  rw [show L - i = (L - (i + 1)) + 1 by omega, rnE, if_pos h]
theorem bk_n {b : Nat → Int32} {L i : Nat} (hi : i < L) (h : blC (chN b L i) = false) : bkE b L i = i := by
  unfold bkE
  rw [show L - i = (L - (i + 1)) + 1 by omega, rnE, if_neg (by rw [h]; decide)]
def sgR (c : Nat) : Nat := rkF (if sgC c = true then c else 1)
theorem sg_R : ∀ c, c < 256 → sgR c = if c = 60 then 13 else if c = 47 then 15 else if c = 42 then 10 else if c = 45 then 9 else if c = 43 then 8 else if c = 59 then 4 else if c = 61 then 5 else if c = 40 then 6 else if c = 41 then 7 else 3 := by decide +kernel
section
variable (d : Nat) (fm : Value) (X : Nat × (Nat → Int32)) (s : Nat → Nat → Int32) (t : Nat → Nat → Int64)
theorem t_Mo_isLetter (h : ab_H) (x : Int32) : ab_T g_Mo_isLetter d (0, 0) [.int x] h (PI (bI (97 ≤ x.toInt ∧ x.toInt ≤ 122)) h) := by
  refine ab_T_of (M := m_Mo_isLetter) rfl rfl (Nat.le_of_ble_eq_true rfl) ?_
  show ab_Z m_Mo_isLetter _ _ _ 0 [_] [] _
  refine ab_go ok_Mo_isLetter 2 rfl ?_
  show ab_Z m_Mo_isLetter _ _ _ 2 [_] [_, _] _
  refine ab_br ok_Mo_isLetter rfl rfl ?_ ?_
  · intro h1
    show ab_Z m_Mo_isLetter _ _ _ 8 [_] [] _
    refine ab_go ok_Mo_isLetter 1 rfl ?_
    show ab_Z m_Mo_isLetter _ _ _ 9 [_] [_] _
    exact ab_rZ ok_Mo_isLetter rfl (by first | decide | exact bB_01 _ | exact bI_01 _) (⟨by rw [bI_f (by have := i_ltR (z := 97) rfl h1; omega)], rfl⟩)
  · intro h1
    show ab_Z m_Mo_isLetter _ _ _ 3 [_] [] _
    refine ab_go ok_Mo_isLetter 2 rfl ?_
    show ab_Z m_Mo_isLetter _ _ _ 5 [_] [_, _] _
    refine ab_br ok_Mo_isLetter rfl rfl ?_ ?_
    · intro h2
      show ab_Z m_Mo_isLetter _ _ _ 8 [_] [] _
      refine ab_go ok_Mo_isLetter 1 rfl ?_
      show ab_Z m_Mo_isLetter _ _ _ 9 [_] [_] _
      exact ab_rZ ok_Mo_isLetter rfl (by first | decide | exact bB_01 _ | exact bI_01 _) (⟨by rw [bI_f (by have := i_ltK (z := 122) rfl h2; omega)], rfl⟩)
    · intro h2
      show ab_Z m_Mo_isLetter _ _ _ 6 [_] [] _
      refine ab_go ok_Mo_isLetter 2 rfl ?_
      show ab_Z m_Mo_isLetter _ _ _ 9 [_] [_] _
      exact ab_rZ ok_Mo_isLetter rfl (by first | decide | exact bB_01 _ | exact bI_01 _) (⟨by rw [bI_t (by have := i_nltR (z := 97) rfl h1; have := i_nltK (z := 122) rfl h2; omega)], rfl⟩)
theorem t_Mo_isDigit (h : ab_H) (x : Int32) : ab_T g_Mo_isDigit d (0, 0) [.int x] h (PI (bI (48 ≤ x.toInt ∧ x.toInt ≤ 57)) h) := by
  refine ab_T_of (M := m_Mo_isDigit) rfl rfl (Nat.le_of_ble_eq_true rfl) ?_
  show ab_Z m_Mo_isDigit _ _ _ 0 [_] [] _
  refine ab_go ok_Mo_isDigit 2 rfl ?_
  show ab_Z m_Mo_isDigit _ _ _ 2 [_] [_, _] _
  refine ab_br ok_Mo_isDigit rfl rfl ?_ ?_
  · intro h1
    show ab_Z m_Mo_isDigit _ _ _ 8 [_] [] _
    refine ab_go ok_Mo_isDigit 1 rfl ?_
    show ab_Z m_Mo_isDigit _ _ _ 9 [_] [_] _
    exact ab_rZ ok_Mo_isDigit rfl (by first | decide | exact bB_01 _ | exact bI_01 _) (⟨by rw [bI_f (by have := i_ltR (z := 48) rfl h1; omega)], rfl⟩)
  · intro h1
    show ab_Z m_Mo_isDigit _ _ _ 3 [_] [] _
    refine ab_go ok_Mo_isDigit 2 rfl ?_
    show ab_Z m_Mo_isDigit _ _ _ 5 [_] [_, _] _
    refine ab_br ok_Mo_isDigit rfl rfl ?_ ?_
    · intro h2
      show ab_Z m_Mo_isDigit _ _ _ 8 [_] [] _
      refine ab_go ok_Mo_isDigit 1 rfl ?_
      show ab_Z m_Mo_isDigit _ _ _ 9 [_] [_] _
      exact ab_rZ ok_Mo_isDigit rfl (by first | decide | exact bB_01 _ | exact bI_01 _) (⟨by rw [bI_f (by have := i_ltK (z := 57) rfl h2; omega)], rfl⟩)
    · intro h2
      show ab_Z m_Mo_isDigit _ _ _ 6 [_] [] _
      refine ab_go ok_Mo_isDigit 2 rfl ?_
      show ab_Z m_Mo_isDigit _ _ _ 9 [_] [_] _
      exact ab_rZ ok_Mo_isDigit rfl (by first | decide | exact bB_01 _ | exact bI_01 _) (⟨by rw [bI_t (by have := i_nltR (z := 48) rfl h1; have := i_nltK (z := 57) rfl h2; omega)], rfl⟩)
theorem t_Mo_byteAt {L i : Nat} (hL : s 81 4 = nI L) (h2 : L ≤ 2000) (hi : i < 100000) (x : Int32) (hx : x = nI i) : ab_T g_Mo_byteAt d (0, 0) [.ref 81, .int x] (HA fm X s t) (PI (chR (s 83) L i) (HA fm X s t)) := by
  subst hx
  refine ab_T_of (M := m_Mo_byteAt) rfl rfl (Nat.le_of_ble_eq_true rfl) ?_
  show ab_Z m_Mo_byteAt _ _ _ 0 [_, _] [] _
  refine ab_go ok_Mo_byteAt 3 rfl ?_
  show ab_Z m_Mo_byteAt _ _ _ 3 [_, _] [_, _] _
  rw [hL]
  refine ab_br ok_Mo_byteAt rfl rfl ?_ ?_
  · intro h3
    show ab_Z m_Mo_byteAt _ _ _ 11 [_, _] [] _
    have h3' := (nI_leI (by omega) (by omega)).mp h3
    refine ab_go ok_Mo_byteAt 1 rfl ?_
    show ab_Z m_Mo_byteAt _ _ _ 12 [_, _] [_] _
    exact ab_rI ok_Mo_byteAt rfl (⟨by unfold chR; rw [if_neg (by omega)], rfl⟩)
  · intro h3
    show ab_Z m_Mo_byteAt _ _ _ 4 [_, _] [] _
    have h3' : i < L := by
      rcases Nat.lt_or_ge i L with h | h
      · exact h
      · exact absurd ((nI_leI (by omega) (by omega)).mpr h) h3
    refine ab_go ok_Mo_byteAt 3 rfl ?_
    show ab_Z m_Mo_byteAt _ _ _ 7 [_, _] [_, _] _
    first | (refine ab_ba1 ok_Mo_byteAt rfl rfl (k := i) (by first | rfl | (simp only [LL1, LL2, LL3, LL4, LL5, LL6, LL7, LL8, LL10, LL15, LL18, LL20, LL21, LL22, LL23, LL24, LL32, LL39, LL40, LL130, LL420, pk_mul, nI_add]; done) | (simp only [LL1, LL2, LL3, LL4, LL5, LL6, LL7, LL8, LL10, LL15, LL18, LL20, LL21, LL22, LL23, LL24, LL32, LL39, LL40, LL130, LL420, pk_mul, nI_add]; congr 1; omega)) (by omega) (Nat.le_of_ble_eq_true rfl) ?_) | (refine ab_ba2 ok_Mo_byteAt rfl rfl (k := i) (by first | rfl | (simp only [LL1, LL2, LL3, LL4, LL5, LL6, LL7, LL8, LL10, LL15, LL18, LL20, LL21, LL22, LL23, LL24, LL32, LL39, LL40, LL130, LL420, pk_mul, nI_add]; done) | (simp only [LL1, LL2, LL3, LL4, LL5, LL6, LL7, LL8, LL10, LL15, LL18, LL20, LL21, LL22, LL23, LL24, LL32, LL39, LL40, LL130, LL420, pk_mul, nI_add]; congr 1; omega)) (by omega) (Nat.le_of_ble_eq_true rfl) ?_)
    show ab_Z m_Mo_byteAt _ _ _ 8 [_, _] [_] _
    refine ab_go ok_Mo_byteAt 3 rfl ?_
    show ab_Z m_Mo_byteAt _ _ _ 12 [_, _] [_] _
    exact ab_rI ok_Mo_byteAt rfl (⟨by unfold chR; rw [if_pos h3', chI_and], rfl⟩)
theorem t_Mo_appends (h : ab_H) {a c : Nat} (hc : 97 ≤ c) (hc2 : c < 256) : ab_T g_Mo_appends d (0, 0) [.long (lN a), .int (nI c)] h (PL (lN (a * 27 + (c - 96))) h) := by
  refine ab_T_of (M := m_Mo_appends) rfl rfl (Nat.le_of_ble_eq_true rfl) ?_
  show ab_Z m_Mo_appends _ _ _ 0 [_, _, _] [] _
  refine ab_go ok_Mo_appends 1 rfl ?_
  show ab_Z m_Mo_appends _ _ _ 1 [_, _, _] [_] _
  refine ab_br ok_Mo_appends rfl rfl ?_ ?_
  · intro h1
    show ab_Z m_Mo_appends _ _ _ 2 [_, _, _] [] _
    exact absurd h1 (nI_ne0 (by omega) (by omega))
  · intro h1
    show ab_Z m_Mo_appends _ _ _ 4 [_, _, _] [] _
    refine ab_go ok_Mo_appends 10 rfl ?_
    show ab_Z m_Mo_appends _ _ _ 14 [_, _, _] [_] _
    exact ab_rL ok_Mo_appends rfl (⟨by rw [show (97 : Int32) = nI 97 from rfl, pk_sub (by omega), ← nI_succ, nI_l (by omega), show (27 : Int64) = lN 27 from rfl, lN_mul, lN_add]; congr 3; omega, rfl⟩)
theorem t_Mo_token {N : Nat} (hN : s 81 10 = nI N) (hN4 : N < 403) (k p v : Int32) (w : Int64) : ab_T g_Mo_token d (0, 0) [.ref 81, .int k, .int p, .int v, .long w] (HA fm X s t) (PV (HA fm X (tokS s N k p v) (ab_up t 87 N w))) := by
  refine ab_T_of (M := m_Mo_token) rfl rfl (Nat.le_of_ble_eq_true rfl) ?_
  show ab_Z m_Mo_token _ _ _ 0 [_, _, _, _, _, _] [] _
  refine ab_go ok_Mo_token 5 rfl ?_
  show ab_Z m_Mo_token _ _ _ 5 [_, _, _, _, _, _] [_, _, _] _
  rw [hN]
  refine ab_is ok_Mo_token rfl rfl (k := N) (by first | rfl | (simp only [LL1, LL2, LL3, LL4, LL5, LL6, LL7, LL8, LL10, LL15, LL18, LL20, LL21, LL22, LL23, LL24, LL32, LL39, LL40, LL130, LL420, pk_mul, nI_add]; done) | (simp only [LL1, LL2, LL3, LL4, LL5, LL6, LL7, LL8, LL10, LL15, LL18, LL20, LL21, LL22, LL23, LL24, LL32, LL39, LL40, LL130, LL420, pk_mul, nI_add]; congr 1; omega)) (by omega) (Nat.le_of_ble_eq_true rfl) ?_
  show ab_Z m_Mo_token _ _ _ 6 [_, _, _, _, _, _] [] _
  refine ab_go ok_Mo_token 5 rfl ?_
  show ab_Z m_Mo_token _ _ _ 11 [_, _, _, _, _, _] [_, _, _] _
  rw [show ab_up s 84 N k 81 10 = nI N from by rw [ab_up_o (by decide)]; exact hN]
  refine ab_is ok_Mo_token rfl rfl (k := N) (by first | rfl | (simp only [LL1, LL2, LL3, LL4, LL5, LL6, LL7, LL8, LL10, LL15, LL18, LL20, LL21, LL22, LL23, LL24, LL32, LL39, LL40, LL130, LL420, pk_mul, nI_add]; done) | (simp only [LL1, LL2, LL3, LL4, LL5, LL6, LL7, LL8, LL10, LL15, LL18, LL20, LL21, LL22, LL23, LL24, LL32, LL39, LL40, LL130, LL420, pk_mul, nI_add]; congr 1; omega)) (by omega) (Nat.le_of_ble_eq_true rfl) ?_
  show ab_Z m_Mo_token _ _ _ 12 [_, _, _, _, _, _] [] _
  refine ab_go ok_Mo_token 5 rfl ?_
  show ab_Z m_Mo_token _ _ _ 17 [_, _, _, _, _, _] [_, _, _] _
  rw [show ab_up (ab_up s 84 N k) 85 N p 81 10 = nI N from by rw [ab_up_o (by decide), ab_up_o (by decide)]; exact hN]
  refine ab_is ok_Mo_token rfl rfl (k := N) (by first | rfl | (simp only [LL1, LL2, LL3, LL4, LL5, LL6, LL7, LL8, LL10, LL15, LL18, LL20, LL21, LL22, LL23, LL24, LL32, LL39, LL40, LL130, LL420, pk_mul, nI_add]; done) | (simp only [LL1, LL2, LL3, LL4, LL5, LL6, LL7, LL8, LL10, LL15, LL18, LL20, LL21, LL22, LL23, LL24, LL32, LL39, LL40, LL130, LL420, pk_mul, nI_add]; congr 1; omega)) (by omega) (Nat.le_of_ble_eq_true rfl) ?_
  show ab_Z m_Mo_token _ _ _ 18 [_, _, _, _, _, _] [] _
  refine ab_go ok_Mo_token 5 rfl ?_
  show ab_Z m_Mo_token _ _ _ 23 [_, _, _, _, _, _] [_, _, _] _
  have h10 : ab_up (ab_up (ab_up s 84 N k) 85 N p) 86 N v 81 10 = nI N := by rw [ab_up_o (by decide), ab_up_o (by decide), ab_up_o (by decide)]; exact hN
  rw [h10]
  refine ab_ls ok_Mo_token rfl rfl (k := N) (by first | rfl | (simp only [LL1, LL2, LL3, LL4, LL5, LL6, LL7, LL8, LL10, LL15, LL18, LL20, LL21, LL22, LL23, LL24, LL32, LL39, LL40, LL130, LL420, pk_mul, nI_add]; done) | (simp only [LL1, LL2, LL3, LL4, LL5, LL6, LL7, LL8, LL10, LL15, LL18, LL20, LL21, LL22, LL23, LL24, LL32, LL39, LL40, LL130, LL420, pk_mul, nI_add]; congr 1; omega)) (by omega) (Nat.le_of_ble_eq_true rfl) ?_
  show ab_Z m_Mo_token _ _ _ 24 [_, _, _, _, _, _] [] _
  refine ab_go ok_Mo_token 6 rfl ?_
  show ab_Z m_Mo_token _ _ _ 30 [_, _, _, _, _, _] [] _
  rw [h10]
  exact ab_rV ok_Mo_token rfl (⟨rfl, by unfold tokS; rw [nI_succ]⟩)
theorem t_Mo_sign {N c : Nat} (hN : s 81 10 = nI N) (hN4 : N < 403) (hc : c < 256) (p y : Int32) : ab_T g_Mo_sign (d + 1) (0, 0) [.ref 81, .int p, .int (nI c), .int y] (HA fm X s t) (PI 1 (HA fm X (tokS s N (nI (sgR c)) p 0) (ab_up t 87 N 0))) := by
  have e : ∀ m : Nat, m < 256 → (nI c = nI m ↔ c = m) := fun m hm => nI_eq (by omega) (by omega)
  have s6 : ∀ k : Nat, k = sgR c → ab_Z m_Mo_sign (d + 1) (0, 0) (PI 1 (HA fm X (tokS s N (nI (sgR c)) p 0) (ab_up t 87 N 0))) 47 [some (.ref 81), some (.int p), some (.int (nI c)), some (.int y), some (.int (nI k))] [] (HA fm X s t) := by
    intro k hk
    rw [hk]
    refine ab_go ok_Mo_sign 5 rfl ?_
    show ab_Z m_Mo_sign _ _ _ 52 [_, _, _, _, _] [_, _, _, _, _] _
    refine ab_cl ok_Mo_sign rfl [_, _, _, _, _] [] rfl ⟨_, _, rfl, rfl, Or.inl ⟨_, _, rfl, rfl⟩⟩ (Nat.le_of_ble_eq_true rfl) (t_Mo_token d fm X s t hN hN4 _ _ _ _) ?_
    rintro _ _ ⟨rfl, rfl⟩
    show ab_Z m_Mo_sign _ _ _ 53 [_, _, _, _, _] [] _
    refine ab_go ok_Mo_sign 1 rfl ?_
    show ab_Z m_Mo_sign _ _ _ 54 [_, _, _, _, _] [_] _
    exact ab_rI ok_Mo_sign rfl (⟨rfl, rfl⟩)
  have s5 : ∀ k : Nat, (if c = 60 then 13 else k) = sgR c → ab_Z m_Mo_sign (d + 1) (0, 0) (PI 1 (HA fm X (tokS s N (nI (sgR c)) p 0) (ab_up t 87 N 0))) 42 [some (.ref 81), some (.int p), some (.int (nI c)), some (.int y), some (.int (nI k))] [] (HA fm X s t) := by
    intro k hk
    refine ab_go ok_Mo_sign 2 rfl ?_
    show ab_Z m_Mo_sign _ _ _ 44 [_, _, _, _, _] [_, _] _
    refine ab_br ok_Mo_sign rfl rfl ?_ ?_
    · intro h1
      show ab_Z m_Mo_sign _ _ _ 45 [_, _, _, _, _] [] _
      refine ab_go ok_Mo_sign 2 rfl ?_
      show ab_Z m_Mo_sign _ _ _ 47 [_, _, _, _, _] [] _
      exact s6 13 (by rw [← hk, if_pos ((e 60 (by decide)).mp h1)])
    · intro h1
      show ab_Z m_Mo_sign _ _ _ 47 [_, _, _, _, _] [] _
      exact s6 k (by rw [← hk, if_neg (fun z => h1 ((e 60 (by decide)).mpr z))])
  have s4 : ∀ k : Nat, (if c = 60 then 13 else if c = 47 then 15 else k) = sgR c → ab_Z m_Mo_sign (d + 1) (0, 0) (PI 1 (HA fm X (tokS s N (nI (sgR c)) p 0) (ab_up t 87 N 0))) 37 [some (.ref 81), some (.int p), some (.int (nI c)), some (.int y), some (.int (nI k))] [] (HA fm X s t) := by
    intro k hk
    refine ab_go ok_Mo_sign 2 rfl ?_
    show ab_Z m_Mo_sign _ _ _ 39 [_, _, _, _, _] [_, _] _
    refine ab_br ok_Mo_sign rfl rfl ?_ ?_
    · intro h1
      show ab_Z m_Mo_sign _ _ _ 40 [_, _, _, _, _] [] _
      refine ab_go ok_Mo_sign 2 rfl ?_
      show ab_Z m_Mo_sign _ _ _ 42 [_, _, _, _, _] [] _
      exact s5 15 (by rw [← hk, if_pos ((e 47 (by decide)).mp h1)])
    · intro h1
      show ab_Z m_Mo_sign _ _ _ 42 [_, _, _, _, _] [] _
      exact s5 k (by rw [← hk, if_neg (show ¬ c = 47 from fun z => h1 ((e 47 (by decide)).mpr z))])
  have s3 : ∀ k : Nat, (if c = 60 then 13 else if c = 47 then 15 else if c = 42 then 10 else k) = sgR c → ab_Z m_Mo_sign (d + 1) (0, 0) (PI 1 (HA fm X (tokS s N (nI (sgR c)) p 0) (ab_up t 87 N 0))) 32 [some (.ref 81), some (.int p), some (.int (nI c)), some (.int y), some (.int (nI k))] [] (HA fm X s t) := by
    intro k hk
    refine ab_go ok_Mo_sign 2 rfl ?_
    show ab_Z m_Mo_sign _ _ _ 34 [_, _, _, _, _] [_, _] _
    refine ab_br ok_Mo_sign rfl rfl ?_ ?_
    · intro h1
      show ab_Z m_Mo_sign _ _ _ 35 [_, _, _, _, _] [] _
      refine ab_go ok_Mo_sign 2 rfl ?_
      show ab_Z m_Mo_sign _ _ _ 37 [_, _, _, _, _] [] _
      exact s4 10 (by rw [← hk, if_pos ((e 42 (by decide)).mp h1)])
    · intro h1
      show ab_Z m_Mo_sign _ _ _ 37 [_, _, _, _, _] [] _
      exact s4 k (by rw [← hk, if_neg (show ¬ c = 42 from fun z => h1 ((e 42 (by decide)).mpr z))])
  have s2 : ∀ k : Nat, (if c = 60 then 13 else if c = 47 then 15 else if c = 42 then 10 else if c = 45 then 9 else k) = sgR c → ab_Z m_Mo_sign (d + 1) (0, 0) (PI 1 (HA fm X (tokS s N (nI (sgR c)) p 0) (ab_up t 87 N 0))) 27 [some (.ref 81), some (.int p), some (.int (nI c)), some (.int y), some (.int (nI k))] [] (HA fm X s t) := by
    intro k hk
    refine ab_go ok_Mo_sign 2 rfl ?_
    show ab_Z m_Mo_sign _ _ _ 29 [_, _, _, _, _] [_, _] _
    refine ab_br ok_Mo_sign rfl rfl ?_ ?_
    · intro h1
      show ab_Z m_Mo_sign _ _ _ 30 [_, _, _, _, _] [] _
      refine ab_go ok_Mo_sign 2 rfl ?_
      show ab_Z m_Mo_sign _ _ _ 32 [_, _, _, _, _] [] _
      exact s3 9 (by rw [← hk, if_pos ((e 45 (by decide)).mp h1)])
    · intro h1
      show ab_Z m_Mo_sign _ _ _ 32 [_, _, _, _, _] [] _
      exact s3 k (by rw [← hk, if_neg (show ¬ c = 45 from fun z => h1 ((e 45 (by decide)).mpr z))])
  have s1 : ∀ k : Nat, (if c = 60 then 13 else if c = 47 then 15 else if c = 42 then 10 else if c = 45 then 9 else if c = 43 then 8 else k) = sgR c → ab_Z m_Mo_sign (d + 1) (0, 0) (PI 1 (HA fm X (tokS s N (nI (sgR c)) p 0) (ab_up t 87 N 0))) 21 [some (.ref 81), some (.int p), some (.int (nI c)), some (.int y), none] [.int (nI k)] (HA fm X s t) := by
    intro k hk
    refine ab_go ok_Mo_sign 3 rfl ?_
    show ab_Z m_Mo_sign _ _ _ 24 [_, _, _, _, _] [_, _] _
    refine ab_br ok_Mo_sign rfl rfl ?_ ?_
    · intro h1
      show ab_Z m_Mo_sign _ _ _ 25 [_, _, _, _, _] [] _
      refine ab_go ok_Mo_sign 2 rfl ?_
      show ab_Z m_Mo_sign _ _ _ 27 [_, _, _, _, _] [] _
      exact s2 8 (by rw [← hk, if_pos ((e 43 (by decide)).mp h1)])
    · intro h1
      show ab_Z m_Mo_sign _ _ _ 27 [_, _, _, _, _] [] _
      exact s2 k (by rw [← hk, if_neg (show ¬ c = 43 from fun z => h1 ((e 43 (by decide)).mpr z))])
  have hR := sg_R c hc
  refine ab_T_of (M := m_Mo_sign) rfl rfl (Nat.le_of_ble_eq_true rfl) ?_
  show ab_Z m_Mo_sign _ _ _ 0 [_, _, _, _, _] [] _
  refine ab_go ok_Mo_sign 2 rfl ?_
  show ab_Z m_Mo_sign _ _ _ 2 [_, _, _, _, _] [_, _] _
  refine ab_br ok_Mo_sign rfl rfl ?_ ?_
  · intro h1
    show ab_Z m_Mo_sign _ _ _ 3 [_, _, _, _, _] [] _
    have h1' := (e 59 (by decide)).mp h1
    refine ab_go ok_Mo_sign 2 rfl ?_
    show ab_Z m_Mo_sign _ _ _ 21 [_, _, _, _, _] [_] _
    exact s1 4 (by rw [hR, if_pos h1'])
  · intro h1
    show ab_Z m_Mo_sign _ _ _ 5 [_, _, _, _, _] [] _
    have h1' : ¬ c = 59 := fun z => h1 ((e 59 (by decide)).mpr z)
    rw [if_neg h1'] at hR
    refine ab_go ok_Mo_sign 2 rfl ?_
    show ab_Z m_Mo_sign _ _ _ 7 [_, _, _, _, _] [_, _] _
    refine ab_br ok_Mo_sign rfl rfl ?_ ?_
    · intro h2
      show ab_Z m_Mo_sign _ _ _ 8 [_, _, _, _, _] [] _
      have h2' := (e 61 (by decide)).mp h2
      refine ab_go ok_Mo_sign 2 rfl ?_
      show ab_Z m_Mo_sign _ _ _ 21 [_, _, _, _, _] [_] _
      exact s1 5 (by rw [hR, if_pos h2'])
    · intro h2
      show ab_Z m_Mo_sign _ _ _ 10 [_, _, _, _, _] [] _
      have h2' : ¬ c = 61 := fun z => h2 ((e 61 (by decide)).mpr z)
      rw [if_neg h2'] at hR
      refine ab_go ok_Mo_sign 2 rfl ?_
      show ab_Z m_Mo_sign _ _ _ 12 [_, _, _, _, _] [_, _] _
      refine ab_br ok_Mo_sign rfl rfl ?_ ?_
      · intro h3
        show ab_Z m_Mo_sign _ _ _ 13 [_, _, _, _, _] [] _
        have h3' := (e 40 (by decide)).mp h3
        refine ab_go ok_Mo_sign 2 rfl ?_
        show ab_Z m_Mo_sign _ _ _ 21 [_, _, _, _, _] [_] _
        exact s1 6 (by rw [hR, if_pos h3'])
      · intro h3
        show ab_Z m_Mo_sign _ _ _ 15 [_, _, _, _, _] [] _
        have h3' : ¬ c = 40 := fun z => h3 ((e 40 (by decide)).mpr z)
        rw [if_neg h3'] at hR
        refine ab_go ok_Mo_sign 2 rfl ?_
        show ab_Z m_Mo_sign _ _ _ 17 [_, _, _, _, _] [_, _] _
        refine ab_br ok_Mo_sign rfl rfl ?_ ?_
        · intro h4
          show ab_Z m_Mo_sign _ _ _ 18 [_, _, _, _, _] [] _
          have h4' := (e 41 (by decide)).mp h4
          refine ab_go ok_Mo_sign 2 rfl ?_
          show ab_Z m_Mo_sign _ _ _ 21 [_, _, _, _, _] [_] _
          exact s1 7 (by rw [hR, if_pos h4'])
        · intro h4
          show ab_Z m_Mo_sign _ _ _ 20 [_, _, _, _, _] [] _
          have h4' : ¬ c = 41 := fun z => h4 ((e 41 (by decide)).mpr z)
          rw [if_neg h4'] at hR
          refine ab_go ok_Mo_sign 1 rfl ?_
          show ab_Z m_Mo_sign _ _ _ 21 [_, _, _, _, _] [_] _
          exact s1 3 hR.symm
end

