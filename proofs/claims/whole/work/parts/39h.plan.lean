/-! plan: asked -/
def opN (s : Nat → Nat → Int32) (nd : Nat) : Nat := bitsN (fun k => decide (s 11 (33 + k) = -2)) nd
theorem opN_lt (s : Nat → Nat → Int32) {nd : Nat} (h : nd ≤ 6) : opN s nd < 64 := Nat.lt_of_lt_of_le (bitsN_lt _ nd) (Nat.pow_le_pow_right (by decide) h : 2 ^ nd ≤ 2 ^ 6)
theorem opN_h {s s' : Nat → Nat → Int32} (h : KpH s s') (nd : Nat) : opN s' nd = opN s nd := by
  unfold opN
  rw [show (fun k => decide (s' 11 (33 + k) = -2)) = (fun k => decide (s 11 (33 + k) = -2)) from funext fun k => by rw [h 11 _ rfl (by decide) (by decide)]]
def POk (s : Nat → Nat → Int32) (t : Nat → Nat → Int64) (PT PB : List (List Ins)) (nc nd : Nat) : Prop := ∀ c, c < nc → (∀ A, A < 64 → hsF (t 46 c) (nI A) = plC s PT nd c (opN s nd) A) ∧ ∀ A, A < 64 → A ≠ 0 → plC s PT nd c (opN s nd) A = true → s 47 (64 * c + A) = plS s PT PB nd c A
def KpP (s s' : Nat → Nat → Int32) : Prop := ∀ c k, scr1 c k = false → ¬ (45 ≤ c ∧ c ≤ 51) → s' c k = s c k
def TpP (t t' : Nat → Nat → Int64) : Prop := ∀ c, c ≠ 46 → c ≠ 51 → t' c = t c
theorem KpP.rf (s : Nat → Nat → Int32) : KpP s s := fun _ _ _ _ => rfl
theorem KpP.tr {a b c : Nat → Nat → Int32} (h : KpP a b) (g : KpP b c) : KpP a c := fun x k p q => (g x k p q).trans (h x k p q)
theorem KpP.toH {a b : Nat → Nat → Int32} (h : KpP a b) : KpH a b := fun x k h1 _ h3 => h x k h1 (by omega)
theorem TpP.rf (t : Nat → Nat → Int64) : TpP t t := fun _ _ _ => rfl
theorem TpP.tr {a b c : Nat → Nat → Int64} (h : TpP a b) (g : TpP b c) : TpP a c := fun x p q => (g x p q).trans (h x p q)
theorem TpP.u6 {a b : Nat → Nat → Int64} {k : Nat} {v : Int64} (h : TpP a b) : TpP a (ab_up b 46 k v) := fun x p q => by rw [ab_up_o p]; exact h x p q
theorem TpP.u1 {a b : Nat → Nat → Int64} {k : Nat} {v : Int64} (h : TpP a b) : TpP a (ab_up b 51 k v) := fun x p q => by rw [ab_up_o q]; exact h x p q
/-- the plan's tables serve the scene whose stamp they bear -/
def PlI (s : Nat → Nat → Int32) (t : Nat → Nat → Int64) (PT PB : List (List Ins)) (nc nd : Nat) : Prop := s 45 7 = s 10 1 → POk s t PT PB nc nd
def jnS (B : Nat → Int32) (C : Nat → Bool) (sc : Nat → Int32) (S : Nat) (m : Int32) (P : Nat) : Int32 := if C P = true then mxF m (B (S ^^^ P) + sc P) else m
def jn (B : Nat → Int32) (C : Nat → Bool) (sc : Nat → Int32) (op S : Nat) : Int32 := if S ≠ 0 ∧ S &&& op = S then (chL S 64 S).foldl (jnS B C sc S) (B S) else B S
def bB0 (S : Nat) : Int32 := if S = 0 then 0 else -1000000000
def bsB (s : Nat → Nat → Int32) (PT PB : List (List Ins)) (nd : Nat) : Nat → Nat → Int32
  | 0 => bB0
  | c + 1 => jn (bsB s PT PB nd c) (plC s PT nd c (opN s nd)) (plS s PT PB nd c) (opN s nd)
def mvF (B : Nat → Int32) : Nat → Int32
  | 0 => 0
  | k + 1 => mxF (mvF B k) (B k)
def bstV (s : Nat → Nat → Int32) (PT PB : List (List Ins)) (nc nd : Nat) : Int32 := mvF (bsB s PT PB nd nc) 64
def digF (sc : Int32) (e : Nat) : Int32 := (bbF sc * 46656 - sc) / ab_wgI e - (bbF sc * 46656 - sc) / ab_wgI e / 6 * 6
def slrV (sc : Int32) (e : Nat) : Int32 := if digF sc e = 0 then -2 else digF sc e - 1
theorem wg_pos : ∀ e, e < 6 → ¬ ab_wgI e ≤ 0 := by decide
theorem wg_n0 : ∀ e, e < 6 → ¬ ab_wgI e = 0 := by decide
theorem nI_sub1 {n : Nat} (h : 0 < n) : nI n - 1 = nI (n - 1) := by
  rw [show nI n = nI (n - 1) + 1 from by rw [← nI_succ, Nat.sub_add_cancel h]]
  exact Int32.add_sub_cancel ..
theorem nI_z {n : Nat} (h : n < 1000) : nI n = 0 ↔ n = 0 := by
  constructor
  · intro z
    have h3 := congrArg Int32.toInt z
    rw [nI_t (by omega)] at h3
    exact Int.ofNat.inj h3
  · intro z; rw [z]; rfl
section
variable (d : Nat) (fm : Value) (X : Nat × (Nat → Int32)) (s : Nat → Nat → Int32) (t : Nat → Nat → Int64)
variable {nc nd nt : Nat} {PT PG PB PF : List (List Ins)}
theorem t_Pl_prepare (hC : CI s nc nd nt PT PG PB PF) (hI : PlI s t PT PB nc nd) : ab_T g_Pl_prepare (d + 6) (0, 0) [.ref 45] (HA fm X s t) (fun v h => v = none ∧ ∃ s' t', h = HA fm X s' t' ∧ KpP s s' ∧ TpP t t' ∧ s' 45 7 = s 10 1 ∧ POk s' t' PT PB nc nd) := by
  have h5 : nc ≤ 5 := hC.1.2.1
  have h6 : nd ≤ 6 := hC.1.2.2.2.1
  refine ab_T_of (M := m_Pl_prepare) rfl rfl (Nat.le_of_ble_eq_true rfl) ?_
  show ab_Z m_Pl_prepare _ _ _ 0 [_, _, _] [] _
  refine ab_go ok_Pl_prepare 6 rfl ?_
  show ab_Z m_Pl_prepare _ _ _ 6 [_, _, _] [_, _] _
  refine ab_br ok_Pl_prepare rfl rfl ?_ ?_
  · intro h1
    show ab_Z m_Pl_prepare _ _ _ 7 [_, _, _] [] _
    exact ab_rV ok_Pl_prepare rfl (⟨rfl, s, t, rfl, KpP.rf s, TpP.rf t, h1, hI h1⟩)
  · intro h1
    show ab_Z m_Pl_prepare _ _ _ 8 [_, _, _] [] _
    refine ab_go ok_Pl_prepare 9 rfl ?_
    show ab_Z m_Pl_prepare _ _ _ 17 [_, _, _] [_, _] _
    have hk0 : KpP s (ab_up s 45 7 (s 10 1)) := fun x k p q => by rw [ab_up_o (show x ≠ 45 by omega)]
    have hC0 := CI_h hk0.toH hC
    refine ab_cl ok_Pl_prepare rfl [_, _] [] rfl ⟨_, _, rfl, rfl, Or.inl ⟨_, _, rfl, rfl⟩⟩ (Nat.le_of_ble_eq_true rfl) (t_Ha_deedsWith (d + 4) fm X _ t (-2) hC0.1.2.2.1 h6) ?_
    rintro _ _ ⟨rfl, rfl⟩
    show ab_Z m_Pl_prepare _ _ _ 18 [_, _, _] [_] _
    rw [show bitsN (fun k => decide (ab_up s 45 7 (s 10 1) 11 (33 + k) = -2)) nd = opN s nd from opN_h hk0.toH nd]
    refine ab_go ok_Pl_prepare 3 rfl ?_
    show ab_Z m_Pl_prepare _ _ _ 21 [_, _, _] [] _
    generalize hPo : (fun v h => v = none ∧ ∃ s' t', h = HA fm X s' t' ∧ KpP s s' ∧ TpP t t' ∧ s' 45 7 = s 10 1 ∧ POk s' t' PT PB nc nd : Option Value → ab_H → Prop) = Po
    refine lp_dn nc (fun c => ∀ s1 t1, KpP s s1 → TpP t t1 → s1 45 7 = s 10 1 → (∀ x, x < c → (∀ A, A < 64 → hsF (t1 46 x) (nI A) = plC s PT nd x (opN s nd) A) ∧ ∀ A, A < 64 → A ≠ 0 → plC s PT nd x (opN s nd) A = true → s1 47 (64 * x + A) = plS s PT PB nd x A) → ab_Z m_Pl_prepare (d + 6) (0, 0) Po 21 [some (.ref 45), some (.int (nI (opN s nd))), some (.int (nI c))] [] (HA fm X s1 t1)) ?_ ?_ _ t hk0 (TpP.rf t) (ab_up_s ..) (fun x hx => absurd hx (by omega))
    · intro s1 t1 hk ht h45 q
      have hC1 := CI_h hk.toH hC
      refine ab_go ok_Pl_prepare 5 rfl ?_
      show ab_Z m_Pl_prepare _ _ _ 26 [_, _, _] [_, _] _
      rw [hC1.1.1]
      refine ab_br ok_Pl_prepare rfl rfl ?_ ?_
      · intro h2
        show ab_Z m_Pl_prepare _ _ _ 33 [_, _, _] [] _
        have fin : Po none (HA fm X s1 t1) := by
          rw [← hPo]
          refine ⟨rfl, s1, t1, rfl, hk, ht, h45, fun c hc => ?_⟩
          rw [opN_h hk.toH]
          exact ⟨fun A hA => by rw [plC_h hk.toH]; exact (q c hc).1 A hA, fun A hA a b => by rw [plC_h hk.toH] at b; rw [plS_h hk.toH]; exact (q c hc).2 A hA a b⟩
        exact ab_rV ok_Pl_prepare rfl (fin)
      · intro h2
        show ab_Z m_Pl_prepare _ _ _ 27 [_, _, _] [] _
        exact absurd (lp_out nc) h2
    · intro c hc ih s1 t1 hk ht h45 q
      have hC1 := CI_h hk.toH hC
      refine ab_go ok_Pl_prepare 5 rfl ?_
      show ab_Z m_Pl_prepare _ _ _ 26 [_, _, _] [_, _] _
      rw [hC1.1.1]
      refine ab_br ok_Pl_prepare rfl rfl ?_ ?_
      · intro h2
        show ab_Z m_Pl_prepare _ _ _ 33 [_, _, _] [] _
        exact absurd h2 (lp_in (by omega) hc)
      · intro h2
        show ab_Z m_Pl_prepare _ _ _ 27 [_, _, _] [] _
        refine ab_go ok_Pl_prepare 3 rfl ?_
        show ab_Z m_Pl_prepare _ _ _ 30 [_, _, _] [_, _, _] _
        refine ab_cl ok_Pl_prepare rfl [_, _, _] [] rfl ⟨_, _, rfl, rfl, Or.inl ⟨_, _, rfl, rfl⟩⟩ (Nat.le_of_ble_eq_true rfl) (t_Pl_prepareClerk d fm X s1 t1 hC1 hc (op := opN s nd) (bitsN_lt _ nd)) ?_
        rintro _ _ ⟨rfl, s2, can, rfl, J⟩
        show ab_Z m_Pl_prepare _ _ _ 31 [_, _, _] [] _
        refine ab_go ok_Pl_prepare 2 rfl ?_
        show ab_Z m_Pl_prepare _ _ _ 21 [_, _, _] [] _
        obtain ⟨j1, j2, j3, j4, j5, j6⟩ := J
        have ih2 := ih s2 _ (hk.tr (fun x k p r => j1 x k p (by omega) (by omega) (by omega))) (ht.u6 (k := c) (v := can)) (by rw [j1 45 7 rfl (by decide) (by decide) (by decide)]; exact h45) (fun x hx => by
          by_cases hxc : x = c
          · subst hxc
            refine ⟨fun A hA => ?_, fun A hA a b => ?_⟩
            · rw [ab_up_s, j2 A hA, decide_eq_true hA, Bool.true_and, plC_h hk.toH]
            · rw [j5 A hA a (by rw [plC_h hk.toH]; exact b), plS_h hk.toH]
          · refine ⟨fun A hA => ?_, fun A hA a b => ?_⟩
            · rw [ab_up_n hxc]; exact (q x (by omega)).1 A hA
            · rw [j6 _ (by omega)]; exact (q x (by omega)).2 A hA a b)
        rw [nI_succ] at ih2
        exact ih2
theorem t_Pl_joinClerk {c op : Nat} (hc : c < 5) (hop : op < 64) (B : Nat → Int32) (C : Nat → Bool) (sc : Nat → Int32) (hB : ∀ S, S < 64 → s 50 S = B S) (hcan : ∀ A, A < 64 → hsF (t 46 c) (nI A) = C A) (hsc : ∀ A, A < 64 → A ≠ 0 → C A = true → s 47 (64 * c + A) = sc A) : ab_T g_Pl_joinClerk (d + 1) (0, 0) [.ref 45, .int (nI c), .int (nI op)] (HA fm X s t) (fun v h => v = none ∧ ∃ s', h = HA fm X s' t ∧ (∀ x, x ≠ 50 → s' x = s x) ∧ ∀ S, S < 64 → s' 50 S = jn B C sc op S) := by
  refine ab_T_of (M := m_Pl_joinClerk) rfl rfl (Nat.le_of_ble_eq_true rfl) ?_
  show ab_Z m_Pl_joinClerk _ _ _ 0 [_, _, _, _, _, _, _, _, _, _] [] _
  refine ab_go ok_Pl_joinClerk 3 rfl ?_
  show ab_Z m_Pl_joinClerk _ _ _ 3 [_, _, _, _, _, _, _, _, _, _] [_, _] _
  refine ab_cl ok_Pl_joinClerk rfl [_, _] [] rfl rfl (Nat.le_of_ble_eq_true rfl) (t_SF_longAt_46 d fm X s t _ c hc rfl) ?_
  rintro _ _ ⟨rfl, rfl⟩
  show ab_Z m_Pl_joinClerk _ _ _ 4 [_, _, _, _, _, _, _, _, _, _] [_] _
  refine ab_go ok_Pl_joinClerk 3 rfl ?_
  show ab_Z m_Pl_joinClerk _ _ _ 7 [_, _, _, _, _, _, _, _, _, _] [] _
  generalize hPo : (fun v h => v = none ∧ ∃ s', h = HA fm X s' t ∧ (∀ x, x ≠ 50 → s' x = s x) ∧ ∀ S, S < 64 → s' 50 S = jn B C sc op S : Option Value → ab_H → Prop) = Po
  refine lp_dn op (fun j => ∀ s1, (∀ x, x ≠ 50 → s1 x = s x) → (∀ S, S < 64 → s1 50 S = if op - j < S then jn B C sc op S else B S) → ab_Z m_Pl_joinClerk (d + 1) (0, 0) Po 7 [some (.ref 45), some (.int (nI c)), some (.int (nI op)), some (.long (t 46 c)), none, some (.int (nI (op - j))), none, none, none, none] [] (HA fm X s1 t)) ?_ ?_ s (fun _ _ => rfl) (fun S hS => ?_)
  · intro s1 hk q
    rw [Nat.sub_self]
    refine ab_go ok_Pl_joinClerk 1 rfl ?_
    show ab_Z m_Pl_joinClerk _ _ _ 8 [_, _, _, _, _, _, _, _, _, _] [_] _
    refine ab_go ok_Pl_joinClerk 1 rfl ?_
    show ab_Z m_Pl_joinClerk _ _ _ 72 [_, _, _, _, _, _, _, _, _, _] [] _
    have fin : Po none (HA fm X s1 t) := by
      rw [← hPo]
      refine ⟨rfl, s1, rfl, hk, fun S hS => ?_⟩
      rw [q S hS, Nat.sub_self]
      by_cases h0 : 0 < S
      · rw [if_pos h0]
      · rw [if_neg h0, jn, if_neg (fun z => z.1 (by omega))]
    exact ab_rV ok_Pl_joinClerk rfl (fin)
  · intro j hj ih s1 hk q
    obtain ⟨S, hS⟩ : ∃ S, op - j = S + 1 := ⟨op - j - 1, by omega⟩
    rw [show op - (j + 1) = S by omega] at ih
    rw [hS] at q ⊢
    generalize hT : S + 1 = T at q ⊢
    have hT6 : T < 64 := by omega
    have hT0 : 0 < T := by omega
    have qlo : ∀ x, x ≤ T → x < 64 → s1 50 x = B x := fun x a b => by rw [q x b, if_neg (by omega)]
    refine ab_go ok_Pl_joinClerk 1 rfl ?_
    show ab_Z m_Pl_joinClerk _ _ _ 8 [_, _, _, _, _, _, _, _, _, _] [_] _
    refine ab_br ok_Pl_joinClerk rfl rfl ?_ ?_
    · intro h1
      show ab_Z m_Pl_joinClerk _ _ _ 72 [_, _, _, _, _, _, _, _, _, _] [] _
      have := i_leR (z := 0) rfl h1
      rw [nI_t (by omega)] at this
      omega
    · intro h1
      show ab_Z m_Pl_joinClerk _ _ _ 9 [_, _, _, _, _, _, _, _, _, _] [] _
      refine ab_go ok_Pl_joinClerk 3 rfl ?_
      show ab_Z m_Pl_joinClerk _ _ _ 12 [_, _, _, _, _, _, _, _, _, _] [_, _] _
      refine ab_cl ok_Pl_joinClerk rfl [_, _] [] rfl rfl (Nat.le_of_ble_eq_true rfl) (t_SF_at_50 d fm X s1 t _ T hT6 rfl) ?_
      rintro _ _ ⟨rfl, rfl⟩
      show ab_Z m_Pl_joinClerk _ _ _ 13 [_, _, _, _, _, _, _, _, _, _] [_] _
      rw [qlo T (Nat.le_refl _) hT6]
      have hput : ∀ (m : Int32) (l7 l8 l9 : Option Value), m = jn B C sc op T → ab_Z m_Pl_joinClerk (d + 1) (0, 0) Po 65 [some (.ref 45), some (.int (nI c)), some (.int (nI op)), some (.long (t 46 c)), none, some (.int (nI T)), some (.int m), l7, l8, l9] [] (HA fm X s1 t) := by
        intro m l7 l8 l9 hm
        refine ab_go ok_Pl_joinClerk 4 rfl ?_
        show ab_Z m_Pl_joinClerk _ _ _ 69 [_, _, _, _, _, _, _, _, _, _] [_, _, _] _
        refine ab_cl ok_Pl_joinClerk rfl [_, _, _] [] rfl rfl (Nat.le_of_ble_eq_true rfl) (t_SF_put_50 d fm X s1 t _ T _ hT6 rfl) ?_
        rintro _ _ ⟨rfl, rfl⟩
        show ab_Z m_Pl_joinClerk _ _ _ 70 [_, _, _, _, _, _, _, _, _, _] [] _
        refine ab_go ok_Pl_joinClerk 2 rfl ?_
        show ab_Z m_Pl_joinClerk _ _ _ 7 [_, _, _, _, _, _, _, _, _, _] [] _
        have ih2 := ih (ab_up s1 50 T m) (fun x hx => by rw [ab_up_o hx]; exact hk x hx) (fun S' hS' => by
          by_cases hST : S' = T
          · subst hST; rw [ab_up_s, if_pos (by omega)]; exact hm
          · rw [ab_up_n hST, q S' hS']
            by_cases h9 : S < S'
            · rw [if_pos h9, if_pos (by omega)]
            · rw [if_neg h9, if_neg (by omega)])
        rw [show nI S = nI T + -1 from by rw [← Int32.sub_eq_add_neg, nI_sub1 hT0, ← hT]; rfl] at ih2
        exact ih2
      refine ab_go ok_Pl_joinClerk 6 rfl ?_
      show ab_Z m_Pl_joinClerk _ _ _ 19 [_, _, _, _, _, _, _, _, _, _] [_] _
      rw [an_nI hT6 op]
      refine ab_br ok_Pl_joinClerk rfl rfl ?_ ?_
      · intro h2
        show ab_Z m_Pl_joinClerk _ _ _ 20 [_, _, _, _, _, _, _, _, _, _] [] _
        have hsub : T &&& op = T := (an_0 T hT6 op hop).mp ((nI_z (by have := anN_lt T op; omega)).mp h2)
        refine ab_go ok_Pl_joinClerk 7 rfl ?_
        show ab_Z m_Pl_joinClerk _ _ _ 28 [_, _, _, _, _, _, _, _, _, _] [] _
        have lp : ∀ k n p m, n + k = 64 → p < 64 → p &&& T = p → (chL T k p).foldl (jnS B C sc T) m = (chL T 64 T).foldl (jnS B C sc T) (B T) → ab_Z m_Pl_joinClerk (d + 1) (0, 0) Po 28 [some (.ref 45), some (.int (nI c)), some (.int (nI op)), some (.long (t 46 c)), none, some (.int (nI T)), some (.int m), some (.int 1), some (.int (nI n)), some (.int (nI p))] [] (HA fm X s1 t) := by
          intro k
          induction k with
          | zero =>
            intro n p m hn hp hps hf
            obtain rfl : n = 64 := by omega
            rw [chL, List.foldl_nil] at hf
            refine ab_go ok_Pl_joinClerk 1 rfl ?_
            show ab_Z m_Pl_joinClerk _ _ _ 29 [_, _, _, _, _, _, _, _, _, _] [_] _
            refine ab_go ok_Pl_joinClerk 1 rfl ?_
            show ab_Z m_Pl_joinClerk _ _ _ 30 [_, _, _, _, _, _, _, _, _, _] [] _
            refine ab_go ok_Pl_joinClerk 2 rfl ?_
            show ab_Z m_Pl_joinClerk _ _ _ 32 [_, _, _, _, _, _, _, _, _, _] [_, _] _
            refine ab_go ok_Pl_joinClerk 1 rfl ?_
            show ab_Z m_Pl_joinClerk _ _ _ 65 [_, _, _, _, _, _, _, _, _, _] [] _
            exact hput m _ _ _ (by rw [hf, jn, if_pos ⟨by omega, hsub⟩])
          | succ k ihk =>
            intro n p m hn hp hps hf
            rw [chL] at hf
            refine ab_go ok_Pl_joinClerk 1 rfl ?_
            show ab_Z m_Pl_joinClerk _ _ _ 29 [_, _, _, _, _, _, _, _, _, _] [_] _
            refine ab_go ok_Pl_joinClerk 1 rfl ?_
            show ab_Z m_Pl_joinClerk _ _ _ 30 [_, _, _, _, _, _, _, _, _, _] [] _
            refine ab_go ok_Pl_joinClerk 2 rfl ?_
            show ab_Z m_Pl_joinClerk _ _ _ 32 [_, _, _, _, _, _, _, _, _, _] [_, _] _
            refine ab_br ok_Pl_joinClerk rfl rfl ?_ ?_
            · intro h3
              show ab_Z m_Pl_joinClerk _ _ _ 65 [_, _, _, _, _, _, _, _, _, _] [] _
              exact absurd h3 (lp_in (N := 64) (by decide) (by omega))
            · intro h3
              show ab_Z m_Pl_joinClerk _ _ _ 33 [_, _, _, _, _, _, _, _, _, _] [] _
              refine ab_go ok_Pl_joinClerk 1 rfl ?_
              show ab_Z m_Pl_joinClerk _ _ _ 34 [_, _, _, _, _, _, _, _, _, _] [_] _
              refine ab_br ok_Pl_joinClerk rfl rfl ?_ ?_
              · intro h4
                show ab_Z m_Pl_joinClerk _ _ _ 65 [_, _, _, _, _, _, _, _, _, _] [] _
                have hp0 := (nI_z (by omega)).mp h4
                rw [if_pos hp0, List.foldl_nil] at hf
                exact hput m _ _ _ (by rw [hf, jn, if_pos ⟨by omega, hsub⟩])
              · intro h4
                show ab_Z m_Pl_joinClerk _ _ _ 35 [_, _, _, _, _, _, _, _, _, _] [] _
                have hp0 : ¬ p = 0 := fun z => h4 ((nI_z (by omega)).mpr z)
                rw [if_neg hp0, List.foldl_cons] at hf
                refine ab_go ok_Pl_joinClerk 2 rfl ?_
                show ab_Z m_Pl_joinClerk _ _ _ 37 [_, _, _, _, _, _, _, _, _, _] [_, _] _
                refine ab_cl ok_Pl_joinClerk rfl [_, _] [] rfl rfl (Nat.le_of_ble_eq_true rfl) (t_Pl_hasSet d _ (t 46 c) (nI p)) ?_
                rintro _ _ ⟨rfl, rfl⟩
                show ab_Z m_Pl_joinClerk _ _ _ 38 [_, _, _, _, _, _, _, _, _, _] [_] _
                rw [hcan p hp]
                refine ab_br ok_Pl_joinClerk rfl rfl ?_ ?_
                · intro h5
                  show ab_Z m_Pl_joinClerk _ _ _ 57 [_, _, _, _, _, _, _, _, _, _] [] _
                  refine ab_go ok_Pl_joinClerk 8 rfl ?_
                  show ab_Z m_Pl_joinClerk _ _ _ 28 [_, _, _, _, _, _, _, _, _, _] [] _
                  rw [nI_sub1 (by omega), nI_and, ← nI_succ n]
                  exact ihk (n + 1) ((p - 1) &&& T) m (by omega) (and_lt64 _ hT6) (sd_sub T hT6 p hp) (by rw [show jnS B C sc T m p = m from by rw [jnS, if_neg (by rw [bB_0.mp h5]; decide)]] at hf; exact hf)
                · intro h5
                  show ab_Z m_Pl_joinClerk _ _ _ 39 [_, _, _, _, _, _, _, _, _, _] [] _
                  refine ab_go ok_Pl_joinClerk 6 rfl ?_
                  show ab_Z m_Pl_joinClerk _ _ _ 45 [_, _, _, _, _, _, _, _, _, _] [_, _, _] _
                  rw [nI_xor]
                  refine ab_cl ok_Pl_joinClerk rfl [_, _] [_] rfl rfl (Nat.le_of_ble_eq_true rfl) (t_SF_at_50 d fm X s1 t _ (T ^^^ p) (sx_le T hT6 p hp hps).2 rfl) ?_
                  rintro _ _ ⟨rfl, rfl⟩
                  show ab_Z m_Pl_joinClerk _ _ _ 46 [_, _, _, _, _, _, _, _, _, _] [_, _] _
                  rw [qlo _ (sx_le T hT6 p hp hps).1 (sx_le T hT6 p hp hps).2]
                  refine ab_go ok_Pl_joinClerk 7 rfl ?_
                  show ab_Z m_Pl_joinClerk _ _ _ 53 [_, _, _, _, _, _, _, _, _, _] [_, _, _, _] _
                  refine ab_cl ok_Pl_joinClerk rfl [_, _] [_, _] rfl rfl (Nat.le_of_ble_eq_true rfl) (t_SF_at_47 d fm X s1 t _ (64 * c + p) (by omega) (ix64 c p)) ?_
                  rintro _ _ ⟨rfl, rfl⟩
                  show ab_Z m_Pl_joinClerk _ _ _ 54 [_, _, _, _, _, _, _, _, _, _] [_, _, _] _
                  rw [show s1 47 (64 * c + p) = sc p from by rw [hk 47 (by decide)]; exact hsc p hp hp0 (bB_n0 h5)]
                  refine ab_go ok_Pl_joinClerk 1 rfl ?_
                  show ab_Z m_Pl_joinClerk _ _ _ 55 [_, _, _, _, _, _, _, _, _, _] [_, _] _
                  refine ab_cl ok_Pl_joinClerk rfl [_, _] [] rfl rfl (Nat.le_of_ble_eq_true rfl) (t_JM_max d _ _ _) ?_
                  rintro _ _ ⟨rfl, rfl⟩
                  show ab_Z m_Pl_joinClerk _ _ _ 56 [_, _, _, _, _, _, _, _, _, _] [_] _
                  refine ab_go ok_Pl_joinClerk 9 rfl ?_
                  show ab_Z m_Pl_joinClerk _ _ _ 28 [_, _, _, _, _, _, _, _, _, _] [] _
                  rw [nI_sub1 (by omega), nI_and, ← nI_succ n]
                  exact ihk (n + 1) ((p - 1) &&& T) _ (by omega) (and_lt64 _ hT6) (sd_sub T hT6 p hp) (by rw [show jnS B C sc T m p = mxF m (B (T ^^^ p) + sc p) from by rw [jnS, if_pos (bB_n0 h5)]] at hf; exact hf)
        exact lp 64 0 T (B T) rfl hT6 (Nat.and_self T) rfl
      · intro h2
        show ab_Z m_Pl_joinClerk _ _ _ 22 [_, _, _, _, _, _, _, _, _, _] [] _
        have hsub : ¬ T &&& op = T := fun z => h2 ((nI_z (by have := anN_lt T op; omega)).mpr ((an_0 T hT6 op hop).mpr z))
        refine ab_go ok_Pl_joinClerk 6 rfl ?_
        show ab_Z m_Pl_joinClerk _ _ _ 28 [_, _, _, _, _, _, _, _, _, _] [] _
        refine ab_go ok_Pl_joinClerk 1 rfl ?_
        show ab_Z m_Pl_joinClerk _ _ _ 29 [_, _, _, _, _, _, _, _, _, _] [_] _
        refine ab_go ok_Pl_joinClerk 1 rfl ?_
        show ab_Z m_Pl_joinClerk _ _ _ 65 [_, _, _, _, _, _, _, _, _, _] [] _
        exact hput _ _ _ _ (by rw [jn, if_neg (fun z => hsub z.2)])
  · rw [hB S hS]
    by_cases h9 : op - 0 < S
    · rw [if_pos h9, jn, if_neg (fun z => by have := Nat.and_le_right (n := S) (m := op); rw [z.2] at this; omega)]
    · rw [if_neg h9]
end

