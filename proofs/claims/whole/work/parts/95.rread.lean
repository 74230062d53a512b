/-! the reference reads: tokens, the plain text, the beginning -/
theorem kV_tk (b : Nat → Int32) (L j : Nat) : kVb (tkK b L j) = true := by
  unfold tkK
  split
  · split
    · rfl
    · rcases wk_r (ltL b L j (ltE b L j - j)) wdL 0 with h | ⟨i, h1, h2, -⟩
      · rw [h]; rfl
      · rw [h2]
        have h1' : i < 21 := h1
        unfold kVb
        rw [decide_eq_true (show 256 ≤ 256 + (0 + i) by omega), decide_eq_true (show 256 + (0 + i) < 277 by omega), Bool.and_self, Bool.or_true]
  · split
    · split <;> rfl
    · split
      · rfl
      · split
        · rename_i h
          unfold kVb
          rw [h, Bool.or_true, Bool.true_or]
        · rfl
theorem tr_TM {b : Nat → Int32} {L N : Nat} {s : Nat → Nat → Int32} {t : Nat → Nat → Int64} (h2 : L ≤ 2000) (h : TrF b L s t N) : TM s t (kOf b L) (tkP b L) (vOf b L) (nOf b L) := by
  have ple : ∀ n, gdT (kOf b L) n → tkP b L n ≤ L := fun n hn => tkP_le b n (fun m hm => (hn.2 m hm).1)
  refine ⟨fun n hn => ?_, tk_W b L, fun n => kV_tk b L _, fun n hn => Nat.le_trans (ple n hn) h2, ?_⟩
  · have hnN : n < N := by
      rcases Nat.lt_or_ge n N with h1 | h1
      · exact h1
      · rcases h.2.2.1 with h5 | h5
        · have := hn.1; omega
        · exact absurd h5.2 (hn.2 (N - 1) (by omega)).1
    exact h.1.2 n hnN
  · intro m n hmn
    induction n with
    | zero => omega
    | succ n ih =>
      intro hg
      have h1 : tkP b L n < tkP b L (n + 1) := tkP_lt b (fun j hj => (hg.2 j (by omega)).1)
      by_cases hm : m = n
      · subst hm; exact h1
      · exact Nat.lt_trans (ih (by omega) (gd_le hg (by omega))) h1
theorem rn_cg {p q : Nat → Bool} (h : p = q) (n i : Nat) : rnE p n i = rnE q n i := by rw [h]
theorem tk_cg {b b' : Nat → Int32} {L : Nat} (h : chN b L = chN b' L) : tkP b L = tkP b' L ∧ fOf b L = fOf b' L := by
  have e1 : bkE b L = bkE b' L := by funext i; unfold bkE; rw [h]
  have e2 : ltE b L = ltE b' L := by funext i; unfold ltE; rw [h]
  have e3 : dgE b L = dgE b' L := by funext i; unfold dgE; rw [h]
  have e4 : ltL b L = ltL b' L := by funext i n; unfold ltL; rw [h]
  have e5 : ∀ j n, ivN b L j n = ivN b' L j n := fun j n => by
    induction n with
    | zero => rfl
    | succ n ih => rw [ivN, ivN, ih, h]
  have e6 : tkE b L = tkE b' L := by funext j; unfold tkE; rw [h, e2, e3]
  have e7 : tkK b L = tkK b' L := by funext j; unfold tkK; rw [h, e2, e3, e4]
  have e8 : tkV' b L = tkV' b' L := by funext j; unfold tkV'; rw [e3, e5]
  have e9 : tkN b L = tkN b' L := by funext j; unfold tkN; rw [e2, e4]
  have eP : tkP b L = tkP b' L := by
    funext n
    induction n with
    | zero => rw [tkP, tkP, e1]
    | succ n ih => rw [tkP, tkP, ih, e1, e6]
  refine ⟨eP, ?_⟩
  show topT (fun n => tkK b L (tkP b L n)) (fun n => tkV' b L (tkP b L n)) (fun n => tkN b L (tkP b L n)) 401 0 tx0 = _
  rw [e7, e8, e9, eP]
def TX (x : Tx) : Nat → Nat → Int32 := fun c k => if c = 16 then nI (xAg x k) else if c = 17 then nI (xFc x k) else if c = 19 then nI (xWo x k) else if c = 20 then nI (xNe x k) else if c = 21 then xTr x k else if k = 14 then nI (xSl x) else nI (xSd x)
theorem DM.R {s : Nat → Nat → Int32} {sd : Nat} {x : Tx} (h : DM s sd x) (h18 : s 81 18 = nI sd) (hs2 : sd < 2) : RT s sd (TX x) (xNc x) (xNd x) (xNt x) := by
  obtain ⟨h1, h2, h3, h4⟩ := h
  refine ⟨h18, hs2, ⟨h1.1, h1.2.1⟩, ⟨h2.1, h2.2.1⟩, ⟨h3.1, h3.2.1⟩, fun c hc => (h1.2.2 c hc).1, fun c f hc hf => ?_, fun e he => (h2.2.2 e he).1, fun e f he hf => ?_, fun k hk => h3.2.2 k hk, h4.1, h4.2⟩
  · rw [show 15 * sd + 3 * c + f = 3 * (5 * sd + c) + f by omega]
    exact (h1.2.2 c hc).2 f hf
  · rw [show 18 * sd + 3 * e + f = 3 * (6 * sd + e) + f by omega]
    exact (h2.2.2 e he).2 f hf
def r0F (j : Nat) : Int32 := if 15 ≤ j ∧ j < 21 then -2 else 0
def rgF (x : Tx) (m j : Nat) : Int32 := if j < m then nI (xFc x j) else r0F j
section
variable (d : Nat) (fm : Value) (X : Nat × (Nat → Int32)) (s : Nat → Nat → Int32) (t : Nat → Nat → Int64)
theorem t_Mo_plain {sd : Nat} (hs2 : sd < 2) : ab_T g_Mo_plain d (0, 0) [.ref 81, .int (nI sd)] (HA fm X s t) (fun r h => r = none ∧ ∃ s', h = HA fm X s' t ∧ KW sd s s' ∧ (∀ c, ¬ (c = 91 ∨ c = 94 ∨ c = 97 ∨ c = 100 ∨ c = 101 ∨ c = 102 ∨ c = 103) → s' c = s c) ∧ (∀ c, c = 91 ∨ c = 94 ∨ c = 97 ∨ c = 100 ∨ c = 101 → s' c sd = 0) ∧ ∀ k, k < 4 → s' 102 (4 * sd + k) = 0 ∧ s' 103 (4 * sd + k) = 0) := by
  generalize hPo : (fun r h => r = none ∧ ∃ s', h = HA fm X s' t ∧ KW sd s s' ∧ (∀ c, ¬ (c = 91 ∨ c = 94 ∨ c = 97 ∨ c = 100 ∨ c = 101 ∨ c = 102 ∨ c = 103) → s' c = s c) ∧ (∀ c, c = 91 ∨ c = 94 ∨ c = 97 ∨ c = 100 ∨ c = 101 → s' c sd = 0) ∧ ∀ k, k < 4 → s' 102 (4 * sd + k) = 0 ∧ s' 103 (4 * sd + k) = 0 : Option Value → ab_H → Prop) = Po
  refine ab_T_of (M := m_Mo_plain) rfl rfl (Nat.le_of_ble_eq_true rfl) ?_
  show ab_Z m_Mo_plain _ _ _ 0 [_, _, _] [] _
  refine ab_go ok_Mo_plain 4 rfl ?_
  show ab_Z m_Mo_plain _ _ _ 4 [_, _, _] [_, _, _] _
  refine ab_is ok_Mo_plain rfl rfl (k := sd) (by first | rfl | (simp only [LL1, LL2, LL3, LL4, LL5, LL6, LL7, LL8, LL10, LL15, LL18, LL20, LL21, LL22, LL23, LL24, LL32, LL39, LL40, LL130, LL420, pk_mul, nI_add]; done) | (simp only [LL1, LL2, LL3, LL4, LL5, LL6, LL7, LL8, LL10, LL15, LL18, LL20, LL21, LL22, LL23, LL24, LL32, LL39, LL40, LL130, LL420, pk_mul, nI_add]; congr 1; omega)) (by omega) (Nat.le_of_ble_eq_true rfl) ?_
  show ab_Z m_Mo_plain _ _ _ 5 [_, _, _] [] _
  refine ab_go ok_Mo_plain 4 rfl ?_
  show ab_Z m_Mo_plain _ _ _ 9 [_, _, _] [_, _, _] _
  refine ab_is ok_Mo_plain rfl rfl (k := sd) (by first | rfl | (simp only [LL1, LL2, LL3, LL4, LL5, LL6, LL7, LL8, LL10, LL15, LL18, LL20, LL21, LL22, LL23, LL24, LL32, LL39, LL40, LL130, LL420, pk_mul, nI_add]; done) | (simp only [LL1, LL2, LL3, LL4, LL5, LL6, LL7, LL8, LL10, LL15, LL18, LL20, LL21, LL22, LL23, LL24, LL32, LL39, LL40, LL130, LL420, pk_mul, nI_add]; congr 1; omega)) (by omega) (Nat.le_of_ble_eq_true rfl) ?_
  show ab_Z m_Mo_plain _ _ _ 10 [_, _, _] [] _
  refine ab_go ok_Mo_plain 4 rfl ?_
  show ab_Z m_Mo_plain _ _ _ 14 [_, _, _] [_, _, _] _
  refine ab_is ok_Mo_plain rfl rfl (k := sd) (by first | rfl | (simp only [LL1, LL2, LL3, LL4, LL5, LL6, LL7, LL8, LL10, LL15, LL18, LL20, LL21, LL22, LL23, LL24, LL32, LL39, LL40, LL130, LL420, pk_mul, nI_add]; done) | (simp only [LL1, LL2, LL3, LL4, LL5, LL6, LL7, LL8, LL10, LL15, LL18, LL20, LL21, LL22, LL23, LL24, LL32, LL39, LL40, LL130, LL420, pk_mul, nI_add]; congr 1; omega)) (by omega) (Nat.le_of_ble_eq_true rfl) ?_
  show ab_Z m_Mo_plain _ _ _ 15 [_, _, _] [] _
  refine ab_go ok_Mo_plain 4 rfl ?_
  show ab_Z m_Mo_plain _ _ _ 19 [_, _, _] [_, _, _] _
  refine ab_is ok_Mo_plain rfl rfl (k := sd) (by first | rfl | (simp only [LL1, LL2, LL3, LL4, LL5, LL6, LL7, LL8, LL10, LL15, LL18, LL20, LL21, LL22, LL23, LL24, LL32, LL39, LL40, LL130, LL420, pk_mul, nI_add]; done) | (simp only [LL1, LL2, LL3, LL4, LL5, LL6, LL7, LL8, LL10, LL15, LL18, LL20, LL21, LL22, LL23, LL24, LL32, LL39, LL40, LL130, LL420, pk_mul, nI_add]; congr 1; omega)) (by omega) (Nat.le_of_ble_eq_true rfl) ?_
  show ab_Z m_Mo_plain _ _ _ 20 [_, _, _] [] _
  refine ab_go ok_Mo_plain 4 rfl ?_
  show ab_Z m_Mo_plain _ _ _ 24 [_, _, _] [_, _, _] _
  refine ab_is ok_Mo_plain rfl rfl (k := sd) (by first | rfl | (simp only [LL1, LL2, LL3, LL4, LL5, LL6, LL7, LL8, LL10, LL15, LL18, LL20, LL21, LL22, LL23, LL24, LL32, LL39, LL40, LL130, LL420, pk_mul, nI_add]; done) | (simp only [LL1, LL2, LL3, LL4, LL5, LL6, LL7, LL8, LL10, LL15, LL18, LL20, LL21, LL22, LL23, LL24, LL32, LL39, LL40, LL130, LL420, pk_mul, nI_add]; congr 1; omega)) (by omega) (Nat.le_of_ble_eq_true rfl) ?_
  show ab_Z m_Mo_plain _ _ _ 25 [_, _, _] [] _
  refine ab_go ok_Mo_plain 2 rfl ?_
  show ab_Z m_Mo_plain _ _ _ 27 [_, _, _] [] _
  refine lp_dn 4 (fun k => ∀ s1, KW sd s s1 → (∀ c, ¬ (c = 91 ∨ c = 94 ∨ c = 97 ∨ c = 100 ∨ c = 101 ∨ c = 102 ∨ c = 103) → s1 c = s c) → (∀ c, c = 91 ∨ c = 94 ∨ c = 97 ∨ c = 100 ∨ c = 101 → s1 c sd = 0) → (∀ j, j < k → s1 102 (4 * sd + j) = 0 ∧ s1 103 (4 * sd + j) = 0) → ab_Z m_Mo_plain d (0, 0) Po 27 [some (.ref 81), some (.int (nI sd)), some (.int (nI k))] [] (HA fm X s1 t)) ?_ ?_ _ (KW.u (wm3 ⟨by decide, rfl⟩) (KW.u (wm3 ⟨by decide, rfl⟩) (KW.u (wm3 ⟨by decide, rfl⟩) (KW.u (wm3 ⟨by decide, rfl⟩) (KW.u (wm3 ⟨by decide, rfl⟩) (KW.rf sd s)))))) (fun c hc => by rw [ab_up_o (by omega), ab_up_o (by omega), ab_up_o (by omega), ab_up_o (by omega), ab_up_o (by omega)]) (fun c hc => by
      rcases hc with rfl | rfl | rfl | rfl | rfl
      · rw [ab_up_o (by decide), ab_up_o (by decide), ab_up_o (by decide), ab_up_o (by decide), ab_up_s]
      · rw [ab_up_o (by decide), ab_up_o (by decide), ab_up_o (by decide), ab_up_s]
      · rw [ab_up_o (by decide), ab_up_o (by decide), ab_up_s]
      · rw [ab_up_o (by decide), ab_up_s]
      · rw [ab_up_s]) (fun j hj => absurd hj (by omega))
  · intro s1 k1 e1 e2 e3
    refine ab_go ok_Mo_plain 2 rfl ?_
    show ab_Z m_Mo_plain _ _ _ 29 [_, _, _] [_, _] _
    refine ab_go ok_Mo_plain 1 rfl ?_
    show ab_Z m_Mo_plain _ _ _ 50 [_, _, _] [] _
    have fin : Po none (HA fm X s1 t) := by
      rw [← hPo]
      exact ⟨rfl, s1, rfl, k1, e1, e2, e3⟩
    exact ab_rV ok_Mo_plain rfl (fin)
  · intro k hk ih s1 k1 e1 e2 e3
    rw [nI_succ k] at ih
    refine ab_go ok_Mo_plain 2 rfl ?_
    show ab_Z m_Mo_plain _ _ _ 29 [_, _, _] [_, _] _
    refine ab_br ok_Mo_plain rfl rfl ?_ ?_
    · intro h1
      show ab_Z m_Mo_plain _ _ _ 50 [_, _, _] [] _
      exact absurd h1 (lp_in (N := 4) (by decide) hk)
    · intro h1
      show ab_Z m_Mo_plain _ _ _ 30 [_, _, _] [] _
      refine ab_go ok_Mo_plain 8 rfl ?_
      show ab_Z m_Mo_plain _ _ _ 38 [_, _, _] [_, _, _] _
      refine ab_is ok_Mo_plain rfl rfl (k := (4 * sd + k)) (by first | rfl | (simp only [LL1, LL2, LL3, LL4, LL5, LL6, LL7, LL8, LL10, LL15, LL18, LL20, LL21, LL22, LL23, LL24, LL32, LL39, LL40, LL130, LL420, pk_mul, nI_add]; done) | (simp only [LL1, LL2, LL3, LL4, LL5, LL6, LL7, LL8, LL10, LL15, LL18, LL20, LL21, LL22, LL23, LL24, LL32, LL39, LL40, LL130, LL420, pk_mul, nI_add]; congr 1; omega)) (by omega) (Nat.le_of_ble_eq_true rfl) ?_
      show ab_Z m_Mo_plain _ _ _ 39 [_, _, _] [] _
      refine ab_go ok_Mo_plain 8 rfl ?_
      show ab_Z m_Mo_plain _ _ _ 47 [_, _, _] [_, _, _] _
      refine ab_is ok_Mo_plain rfl rfl (k := (4 * sd + k)) (by first | rfl | (simp only [LL1, LL2, LL3, LL4, LL5, LL6, LL7, LL8, LL10, LL15, LL18, LL20, LL21, LL22, LL23, LL24, LL32, LL39, LL40, LL130, LL420, pk_mul, nI_add]; done) | (simp only [LL1, LL2, LL3, LL4, LL5, LL6, LL7, LL8, LL10, LL15, LL18, LL20, LL21, LL22, LL23, LL24, LL32, LL39, LL40, LL130, LL420, pk_mul, nI_add]; congr 1; omega)) (by omega) (Nat.le_of_ble_eq_true rfl) ?_
      show ab_Z m_Mo_plain _ _ _ 48 [_, _, _] [] _
      refine ab_go ok_Mo_plain 2 rfl ?_
      show ab_Z m_Mo_plain _ _ _ 27 [_, _, _] [] _
      refine ih _ (KW.u (wm9 ⟨by decide, by omega, by omega⟩) (KW.u (wm9 ⟨by decide, by omega, by omega⟩) k1)) (fun c hc => by rw [ab_up_o (by omega), ab_up_o (by omega)]; exact e1 c hc) (fun c hc => by rw [ab_up_o (by omega), ab_up_o (by omega)]; exact e2 c hc) (fun j hj => ?_)
      rw [ab_up_o (show (102 : Nat) ≠ 103 by decide)]
      by_cases hjk : j = k
      · subst hjk
        rw [ab_up_s, ab_up_s]
        exact ⟨rfl, rfl⟩
      · rw [ab_up_n (by omega), ab_up_n (by omega), ab_up_o (show (103 : Nat) ≠ 102 by decide)]
        exact e3 j (by omega)
theorem t_Mo_begins {sd : Nat} {x : Tx} (hD : DM s sd x) (h18 : s 81 18 = nI sd) (hs2 : sd < 2) : ab_T g_Mo_begins (d + 1) (0, 0) [.ref 81] (HA fm X s t) (fun r h => r = none ∧ ∃ g, h = HA fm X (ab_up (ab_ro s 115 g) 81 52 (nI (xSd x))) t ∧ ∀ j, j < 40 → g j = rgF x (3 * xNc x) j) := by
  generalize hPo : (fun r h => r = none ∧ ∃ g, h = HA fm X (ab_up (ab_ro s 115 g) 81 52 (nI (xSd x))) t ∧ ∀ j, j < 40 → g j = rgF x (3 * xNc x) j : Option Value → ab_H → Prop) = Po
  have hn5 : xNc x ≤ 5 := hD.1.2.1
  have hR := hD.R h18 hs2
  have two : ∀ m c, c + m = xNc x → ∀ g, (∀ j, j < 40 → g j = rgF x (3 * c) j) → ab_Z m_Mo_begins (d + 1) (0, 0) Po 22 [some (.ref 81), some (.int (nI c)), none] [] (HA fm X (ab_ro s 115 g) t) := by
    intro m
    induction m with
    | zero =>
      intro c hc g hg
      have hcn : c = xNc x := by omega
      subst hcn
      refine ab_go ok_Mo_begins 5 rfl ?_
      show ab_Z m_Mo_begins _ _ _ 27 [_, _, _] [_, _, _] _
      rw [show ab_ro s 115 g 81 18 = nI sd from by rw [ab_ro_o (by decide)]; exact h18]
      refine ab_ia ok_Mo_begins rfl rfl (k := sd) (by first | rfl | (simp only [LL1, LL2, LL3, LL4, LL5, LL6, LL7, LL8, LL10, LL15, LL18, LL20, LL21, LL22, LL23, LL24, LL32, LL39, LL40, LL130, LL420, pk_mul, nI_add]; done) | (simp only [LL1, LL2, LL3, LL4, LL5, LL6, LL7, LL8, LL10, LL15, LL18, LL20, LL21, LL22, LL23, LL24, LL32, LL39, LL40, LL130, LL420, pk_mul, nI_add]; congr 1; omega)) (by omega) (Nat.le_of_ble_eq_true rfl) ?_
      show ab_Z m_Mo_begins _ _ _ 28 [_, _, _] [_, _] _
      rw [show ab_ro s 115 g 91 sd = nI (xNc x) from by rw [ab_ro_o (by decide)]; exact hD.1.1]
      refine ab_br ok_Mo_begins rfl rfl ?_ ?_
      · intro h1
        show ab_Z m_Mo_begins _ _ _ 50 [_, _, _] [] _
        refine ab_go ok_Mo_begins 5 rfl ?_
        show ab_Z m_Mo_begins _ _ _ 55 [_, _, _] [_, _, _] _
        rw [show ab_ro s 115 g 81 18 = nI sd from by rw [ab_ro_o (by decide)]; exact h18]
        refine ab_ia ok_Mo_begins rfl rfl (k := sd) (by first | rfl | (simp only [LL1, LL2, LL3, LL4, LL5, LL6, LL7, LL8, LL10, LL15, LL18, LL20, LL21, LL22, LL23, LL24, LL32, LL39, LL40, LL130, LL420, pk_mul, nI_add]; done) | (simp only [LL1, LL2, LL3, LL4, LL5, LL6, LL7, LL8, LL10, LL15, LL18, LL20, LL21, LL22, LL23, LL24, LL32, LL39, LL40, LL130, LL420, pk_mul, nI_add]; congr 1; omega)) (by omega) (Nat.le_of_ble_eq_true rfl) ?_
        show ab_Z m_Mo_begins _ _ _ 56 [_, _, _] [_, _] _
        rw [show ab_ro s 115 g 101 sd = nI (xSd x) from by rw [ab_ro_o (by decide)]; exact hD.2.2.2.2]
        refine ab_go ok_Mo_begins 1 rfl ?_
        show ab_Z m_Mo_begins _ _ _ 57 [_, _, _] [] _
        have fin : Po none (HA fm X (ab_up (ab_ro s 115 g) 81 52 (nI (xSd x))) t) := by
          rw [← hPo]
          exact ⟨rfl, g, rfl, hg⟩
        exact ab_rV ok_Mo_begins rfl (fin)
      · intro h1
        show ab_Z m_Mo_begins _ _ _ 29 [_, _, _] [] _
        exact absurd (lp_out _) h1
    | succ m ih =>
      intro c hc g hg
      have hcn : c < xNc x := by omega
      refine ab_go ok_Mo_begins 5 rfl ?_
      show ab_Z m_Mo_begins _ _ _ 27 [_, _, _] [_, _, _] _
      rw [show ab_ro s 115 g 81 18 = nI sd from by rw [ab_ro_o (by decide)]; exact h18]
      refine ab_ia ok_Mo_begins rfl rfl (k := sd) (by first | rfl | (simp only [LL1, LL2, LL3, LL4, LL5, LL6, LL7, LL8, LL10, LL15, LL18, LL20, LL21, LL22, LL23, LL24, LL32, LL39, LL40, LL130, LL420, pk_mul, nI_add]; done) | (simp only [LL1, LL2, LL3, LL4, LL5, LL6, LL7, LL8, LL10, LL15, LL18, LL20, LL21, LL22, LL23, LL24, LL32, LL39, LL40, LL130, LL420, pk_mul, nI_add]; congr 1; omega)) (by omega) (Nat.le_of_ble_eq_true rfl) ?_
      show ab_Z m_Mo_begins _ _ _ 28 [_, _, _] [_, _] _
      rw [show ab_ro s 115 g 91 sd = nI (xNc x) from by rw [ab_ro_o (by decide)]; exact hD.1.1]
      refine ab_br ok_Mo_begins rfl rfl ?_ ?_
      · intro h1
        show ab_Z m_Mo_begins _ _ _ 50 [_, _, _] [] _
        exact absurd h1 (lp_in (by omega) hcn)
      · intro h1
        show ab_Z m_Mo_begins _ _ _ 29 [_, _, _] [] _
        refine ab_go ok_Mo_begins 2 rfl ?_
        show ab_Z m_Mo_begins _ _ _ 31 [_, _, _] [] _
        refine lp_dn 3 (fun f => ∀ g, (∀ j, j < 40 → g j = rgF x (3 * c + f) j) → ab_Z m_Mo_begins (d + 1) (0, 0) Po 31 [some (.ref 81), some (.int (nI c)), some (.int (nI f))] [] (HA fm X (ab_ro s 115 g) t)) ?_ ?_ g hg
        · intro g hg
          refine ab_go ok_Mo_begins 2 rfl ?_
          show ab_Z m_Mo_begins _ _ _ 33 [_, _, _] [_, _] _
          refine ab_go ok_Mo_begins 1 rfl ?_
          show ab_Z m_Mo_begins _ _ _ 48 [_, _, _] [] _
          refine ab_go ok_Mo_begins 2 rfl ?_
          show ab_Z m_Mo_begins _ _ _ 22 [_, _, _] [] _
          rw [← nI_succ]
          exact ih (c + 1) (by omega) g (fun j hj => by rw [hg j hj, show 3 * c + 3 = 3 * (c + 1) by omega])
        · intro f hf ihf g hg
          rw [nI_succ f] at ihf
          have hRg : RT (ab_ro s 115 g) sd (TX x) (xNc x) (xNd x) (xNt x) := hR.k (Kr.ro (fun k => rfl) (Kr.rf w4 s))
          refine ab_go ok_Mo_begins 2 rfl ?_
          show ab_Z m_Mo_begins _ _ _ 33 [_, _, _] [_, _] _
          refine ab_br ok_Mo_begins rfl rfl ?_ ?_
          · intro h2
            show ab_Z m_Mo_begins _ _ _ 48 [_, _, _] [] _
            exact absurd h2 (lp_in (N := 3) (by decide) hf)
          · intro h2
            show ab_Z m_Mo_begins _ _ _ 34 [_, _, _] [] _
            refine ab_go ok_Mo_begins 10 rfl ?_
            show ab_Z m_Mo_begins _ _ _ 44 [_, _, _] [_, _, _, _, _] _
            refine ab_cl ok_Mo_begins rfl [_, _, _] [_, _] rfl ⟨_, _, rfl, rfl, Or.inl ⟨_, _, rfl, rfl⟩⟩ (Nat.le_of_ble_eq_true rfl) (t_Mo_firstLevel d fm X _ (TX x) t hRg hcn hf) ?_
            rintro _ _ ⟨rfl, rfl⟩
            show ab_Z m_Mo_begins _ _ _ 45 [_, _, _] [_, _, _] _
            refine ab_is ok_Mo_begins rfl rfl (k := (3 * c + f)) (by rw [show (3 : Int32) = nI 3 from rfl, pk_mul, nI_add]) (by omega) (Nat.le_of_ble_eq_true rfl) ?_
            show ab_Z m_Mo_begins _ _ _ 46 [_, _, _] [] _
            refine ab_go ok_Mo_begins 2 rfl ?_
            show ab_Z m_Mo_begins _ _ _ 31 [_, _, _] [] _
            rw [ro_up]
            refine ihf _ (fun j hj => ?_)
            show (if j = 3 * c + f then TX x 17 (3 * c + f) else g j) = _
            unfold rgF
            by_cases hjk : j = 3 * c + f
            · rw [if_pos hjk, if_pos (by omega), hjk]
              rfl
            · rw [if_neg hjk, hg j hj]
              unfold rgF
              by_cases hj2 : j < 3 * c + f
              · rw [if_pos hj2, if_pos (by omega)]
              · rw [if_neg hj2, if_neg (by omega)]
  have one := lp_dn 40 (fun k => ∀ g, (∀ j, j < k → g j = r0F j) → ab_Z m_Mo_begins (d + 1) (0, 0) Po 2 [some (.ref 81), some (.int (nI k)), none] [] (HA fm X (ab_ro s 115 g) t)) ?_ ?_
  · refine ab_T_of (M := m_Mo_begins) rfl rfl (Nat.le_of_ble_eq_true rfl) ?_
    show ab_Z m_Mo_begins _ _ _ 0 [_, _, _] [] _
    refine ab_go ok_Mo_begins 2 rfl ?_
    show ab_Z m_Mo_begins _ _ _ 2 [_, _, _] [] _
    have := one (s 115) (fun j hj => absurd hj (by omega))
    rw [ro_id] at this
    exact this
  · intro g hg
    refine ab_go ok_Mo_begins 2 rfl ?_
    show ab_Z m_Mo_begins _ _ _ 4 [_, _, _] [_, _] _
    refine ab_go ok_Mo_begins 1 rfl ?_
    show ab_Z m_Mo_begins _ _ _ 20 [_, _, _] [] _
    refine ab_go ok_Mo_begins 2 rfl ?_
    show ab_Z m_Mo_begins _ _ _ 22 [_, _, _] [] _
    refine two (xNc x) 0 (by omega) g (fun j hj => ?_)
    unfold rgF
    rw [if_neg (by omega)]
    exact hg j hj
  · intro k hk ih g hg
    rw [nI_succ k] at ih
    have st : ∀ v : Int32, v = r0F k → ab_Z m_Mo_begins (d + 1) (0, 0) Po 17 [some (.ref 81), some (.int (nI k)), none] [.int v, .int (nI k), .ref 115] (HA fm X (ab_ro s 115 g) t) := by
      intro v hv
      refine ab_is ok_Mo_begins rfl rfl (k := k) (by first | rfl | (simp only [LL1, LL2, LL3, LL4, LL5, LL6, LL7, LL8, LL10, LL15, LL18, LL20, LL21, LL22, LL23, LL24, LL32, LL39, LL40, LL130, LL420, pk_mul, nI_add]; done) | (simp only [LL1, LL2, LL3, LL4, LL5, LL6, LL7, LL8, LL10, LL15, LL18, LL20, LL21, LL22, LL23, LL24, LL32, LL39, LL40, LL130, LL420, pk_mul, nI_add]; congr 1; omega)) (by omega) (Nat.le_of_ble_eq_true rfl) ?_
      show ab_Z m_Mo_begins _ _ _ 18 [_, _, _] [] _
      refine ab_go ok_Mo_begins 2 rfl ?_
      show ab_Z m_Mo_begins _ _ _ 2 [_, _, _] [] _
      rw [ro_up]
      refine ih _ (fun j hj => ?_)
      show (if j = k then v else g j) = r0F j
      by_cases hjk : j = k
      · rw [if_pos hjk, hjk, hv]
      · rw [if_neg hjk]
        exact hg j (by omega)
    refine ab_go ok_Mo_begins 2 rfl ?_
    show ab_Z m_Mo_begins _ _ _ 4 [_, _, _] [_, _] _
    refine ab_br ok_Mo_begins rfl rfl ?_ ?_
    · intro h1
      show ab_Z m_Mo_begins _ _ _ 20 [_, _, _] [] _
      exact absurd h1 (lp_in (N := 40) (by decide) hk)
    · intro h1
      show ab_Z m_Mo_begins _ _ _ 5 [_, _, _] [] _
      refine ab_go ok_Mo_begins 5 rfl ?_
      show ab_Z m_Mo_begins _ _ _ 10 [_, _, _] [_, _, _, _] _
      refine ab_br ok_Mo_begins rfl rfl ?_ ?_
      · intro h2
        show ab_Z m_Mo_begins _ _ _ 16 [_, _, _] [_, _] _
        have h2' := (nI_ltI (show k < 2 ^ 31 by omega) (show 15 < 2 ^ 31 by decide)).mp h2
        refine ab_go ok_Mo_begins 1 rfl ?_
        show ab_Z m_Mo_begins _ _ _ 17 [_, _, _] [_, _, _] _
        exact st 0 (by unfold r0F; rw [if_neg (by omega)])
      · intro h2
        show ab_Z m_Mo_begins _ _ _ 11 [_, _, _] [_, _] _
        have h2' : 15 ≤ k := by
          rcases Nat.lt_or_ge k 15 with h | h
          · exact absurd ((nI_ltI (show k < 2 ^ 31 by omega) (show 15 < 2 ^ 31 by decide)).mpr h) h2
          · exact h
        refine ab_go ok_Mo_begins 2 rfl ?_
        show ab_Z m_Mo_begins _ _ _ 13 [_, _, _] [_, _, _, _] _
        refine ab_br ok_Mo_begins rfl rfl ?_ ?_
        · intro h3
          show ab_Z m_Mo_begins _ _ _ 16 [_, _, _] [_, _] _
          have h3' := (nI_leI (show 21 < 2 ^ 31 by decide) (show k < 2 ^ 31 by omega)).mp h3
          refine ab_go ok_Mo_begins 1 rfl ?_
          show ab_Z m_Mo_begins _ _ _ 17 [_, _, _] [_, _, _] _
          exact st 0 (by unfold r0F; rw [if_neg (by omega)])
        · intro h3
          show ab_Z m_Mo_begins _ _ _ 14 [_, _, _] [_, _] _
          have h3' : k < 21 := by
            rcases Nat.lt_or_ge k 21 with h | h
            · exact h
            · exact absurd ((nI_leI (show 21 < 2 ^ 31 by decide) (show k < 2 ^ 31 by omega)).mpr h) h3
          refine ab_go ok_Mo_begins 2 rfl ?_
          show ab_Z m_Mo_begins _ _ _ 17 [_, _, _] [_, _, _] _
          exact st (-2) (by unfold r0F; rw [if_pos (by omega)])
end

