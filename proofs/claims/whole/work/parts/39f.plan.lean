/-! plan: prepared -/
theorem plN_h {s s' : Nat → Nat → Int32} (h : KpH s s') (nd c a : Nat) : plN s' nd c a = plN s nd c a := by unfold plN; rw [nsV_h h]
theorem plL_h {s s' : Nat → Nat → Int32} (h : KpH s s') (PT : List (List Ins)) (nd c A : Nat) : ∀ i f, plL s' PT nd c A i f = plL s PT nd c A i f
  | 0, f => h 11 _ rfl (by decide) (by decide)
  | i + 1, f => by rw [plL, plL, plL_h h PT nd c A i f, tkV_h h, plN_h h]
theorem plT_h {s s' : Nat → Nat → Int32} (h : KpH s s') (PT : List (List Ins)) (nd c A e f : Nat) : plT s' PT nd c A e f = plT s PT nd c A e f := by
  unfold plT
  rw [plL_h h, tkV_h h, plN_h h]
theorem plO_h {s s' : Nat → Nat → Int32} (h : KpH s s') (PT : List (List Ins)) (nd c A e : Nat) : plO s' PT nd c A e = plO s PT nd c A e := by
  unfold plO
  rw [show plT s' PT nd c A e = plT s PT nd c A e from funext fun f => plT_h h PT nd c A e f, show plL s' PT nd c A e = plL s PT nd c A e from funext fun f => plL_h h PT nd c A e f]
theorem plK_h {s s' : Nat → Nat → Int32} (h : KpH s s') (PT : List (List Ins)) (nd c op A : Nat) : ∀ i, plK s' PT nd c op A i = plK s PT nd c op A i
  | 0 => rfl
  | i + 1 => by rw [plK, plK, plK_h h PT nd c op A i, plO_h h]
theorem plC_h {s s' : Nat → Nat → Int32} (h : KpH s s') (PT : List (List Ins)) (nd c op A : Nat) : plC s' PT nd c op A = plC s PT nd c op A := plK_h h PT nd c op A 6
theorem plP_h {s s' : Nat → Nat → Int32} (h : KpH s s') (PT : List (List Ins)) (nd c A e : Nat) : plP s' PT nd c A e = plP s PT nd c A e := by
  unfold plP
  rw [show plT s' PT nd c A e = plT s PT nd c A e from funext fun f => plT_h h PT nd c A e f]
theorem scF_h {s s' : Nat → Nat → Int32} (h : KpH s s') (PB : List (List Ins)) (c A : Nat) (n : Int32) (pr : Nat → Int32) : ∀ e, scF s' PB c A n pr e = scF s PB c A n pr e
  | 0 => rfl
  | e + 1 => by rw [scF, scF, scF_h h PB c A n pr e, h 16 _ rfl (by decide) (by decide), h 11 39 rfl (by decide) (by decide), h 19 _ rfl (by decide) (by decide)]
theorem plS_h {s s' : Nat → Nat → Int32} (h : KpH s s') (PT PB : List (List Ins)) (nd c A : Nat) : plS s' PT PB nd c A = plS s PT PB nd c A := by
  unfold plS
  rw [scF_h h, plN_h h, show plP s' PT nd c A = plP s PT nd c A from funext fun e => plP_h h PT nd c A e]
theorem plL_md (s : Nat → Nat → Int32) (PT : List (List Ins)) (nd c A : Nat) {k : Nat} : ∀ i f, i ≤ k → plL s PT nd c (A % 2 ^ k) i f = plL s PT nd c A i f
  | 0, f, _ => rfl
  | i + 1, f, h => by rw [plL, plL, plL_md s PT nd c A i f (by omega), Nat.testBit_mod_two_pow, decide_eq_true (show i < k by omega), Bool.true_and, Nat.mod_mod_of_dvd _ (Nat.pow_dvd_pow 2 (show i ≤ k by omega))]
theorem plT_md (s : Nat → Nat → Int32) (PT : List (List Ins)) (nd c A : Nat) {k i f : Nat} (h : i ≤ k) : plT s PT nd c (A % 2 ^ k) i f = plT s PT nd c A i f := by
  unfold plT
  rw [plL_md s PT nd c A i f h, Nat.mod_mod_of_dvd _ (Nat.pow_dvd_pow 2 h)]
theorem plO_md (s : Nat → Nat → Int32) (PT : List (List Ins)) (nd c A : Nat) {k i : Nat} (h : i ≤ k) : plO s PT nd c (A % 2 ^ k) i = plO s PT nd c A i := by
  unfold plO
  rw [show plT s PT nd c (A % 2 ^ k) i = plT s PT nd c A i from funext fun f => plT_md s PT nd c A h, show plL s PT nd c (A % 2 ^ k) i = plL s PT nd c A i from funext fun f => plL_md s PT nd c A i f h]
theorem plP_md (s : Nat → Nat → Int32) (PT : List (List Ins)) (nd c A : Nat) {k i : Nat} (h : i ≤ k) : plP s PT nd c (A % 2 ^ k) i = plP s PT nd c A i := by
  unfold plP
  rw [show plT s PT nd c (A % 2 ^ k) i = plT s PT nd c A i from funext fun f => plT_md s PT nd c A h]
theorem plK_md {s : Nat → Nat → Int32} {PT : List (List Ins)} {nd c op A k : Nat} : ∀ i, plK s PT nd c op A i = true → plK s PT nd c op (A % 2 ^ k) i = true
  | 0, _ => rfl
  | i + 1, h => by
    rw [plK, Bool.and_eq_true] at h
    rw [plK, plK_md i h.1, Nat.testBit_mod_two_pow, Bool.true_and]
    by_cases hi : i < k
    · rw [decide_eq_true hi, Bool.true_and, plO_md s PT nd c A (by omega)]
      exact h.2
    · rw [decide_eq_false hi]; rfl
theorem plC_md {s : Nat → Nat → Int32} {PT : List (List Ins)} {nd c op A : Nat} (k : Nat) (h : plC s PT nd c op A = true) : plC s PT nd c op (A % 2 ^ k) = true := plK_md 6 h
theorem plC_0 (s : Nat → Nat → Int32) (PT : List (List Ins)) (nd c op : Nat) : plC s PT nd c op 0 = true := by
  unfold plC
  have : ∀ i, plK s PT nd c op 0 i = true := by
    intro i
    induction i with
    | zero => rfl
    | succ i ih => rw [plK, ih, Nat.zero_testBit]; rfl
  exact this 6
def PJ (s : Nat → Nat → Int32) (PT PB : List (List Ins)) (nd c op Q : Nat) (s1 : Nat → Nat → Int32) (can : Int64) : Prop :=
  (∀ x k, scr1 x k = false → x ≠ 47 → x ≠ 48 → x ≠ 49 → s1 x k = s x k) ∧ (∀ A, A < 64 → hsF can (nI A) = (decide (A < Q) && plC s PT nd c op A)) ∧ (∀ A, A < Q → plC s PT nd c op A = true → ∀ f, f < 3 → s1 48 (3 * A + f) = plL s PT nd c A 6 f) ∧ (∀ e a, e < 6 → a < 2 ^ e → 2 ^ e + a < Q → plC s PT nd c op (2 ^ e + a) = true → s1 49 (2 ^ e + a) = plP s PT nd c (2 ^ e + a) e) ∧ (∀ A, A < Q → A ≠ 0 → plC s PT nd c op A = true → s1 47 (64 * c + A) = plS s PT PB nd c A) ∧ ∀ j, ¬ (64 * c ≤ j ∧ j < 64 * c + 64) → s1 47 j = s 47 j
theorem PJ.toH {s : Nat → Nat → Int32} {PT PB : List (List Ins)} {nd c op Q : Nat} {s1 : Nat → Nat → Int32} {can : Int64} (h : PJ s PT PB nd c op Q s1 can) : KpH s s1 := fun x k h1 _ h3 => h.1 x k h1 (by omega) (by omega) (by omega)
theorem PJ.no {s : Nat → Nat → Int32} {PT PB : List (List Ins)} {nd c op Q : Nat} {s1 : Nat → Nat → Int32} {can : Int64} (h : PJ s PT PB nd c op Q s1 can) {Q' : Nat} (hQ : Q ≤ Q') (hn : ∀ A, Q ≤ A → A < Q' → plC s PT nd c op A = false) : PJ s PT PB nd c op Q' s1 can := by
  obtain ⟨h1, h2, h3, h4, h5, h6⟩ := h
  have lt : ∀ A, A < Q' → plC s PT nd c op A = true → A < Q := fun A a b => by
    rcases Nat.lt_or_ge A Q with z | z
    · exact z
    · rw [hn A z a] at b; cases b
  refine ⟨h1, fun A hA => ?_, fun A a b => h3 A (lt A a b) b, fun e a p q r u => h4 e a p q (lt _ r u) u, fun A a b e => h5 A (lt A a e) b e, h6⟩
  rw [h2 A hA]
  by_cases hq : A < Q
  · rw [decide_eq_true hq, decide_eq_true (show A < Q' by omega)]
  · rw [decide_eq_false hq, Bool.false_and]
    by_cases hq' : A < Q'
    · rw [hn A (by omega) hq', Bool.and_false]
    · rw [decide_eq_false hq', Bool.false_and]
/-- the rows of a set just looked at are put: 48, 49 at A only -/
theorem PJ.put {s : Nat → Nat → Int32} {PT PB : List (List Ins)} {nd c op Q : Nat} {s1 s2 : Nat → Nat → Int32} {can : Int64} (h : PJ s PT PB nd c op Q s1 can) (hk : KpQ 48 49 s1 s2) (h8 : ∀ j, ¬ (3 * Q ≤ j ∧ j < 3 * Q + 3) → s2 48 j = s1 48 j) (h9 : ∀ j, j ≠ Q → s2 49 j = s1 49 j) : PJ s PT PB nd c op Q s2 can := by
  obtain ⟨h1, h2, h3, h4, h5, h6⟩ := h
  refine ⟨fun x k a b e f => (hk x k a e f).trans (h1 x k a b e f), h2, fun A a b f hf => by rw [h8 _ (by omega)]; exact h3 A a b f hf, fun e a p q r u => by rw [h9 _ (by omega)]; exact h4 e a p q r u, fun A a b e => by rw [hk 47 _ rfl (by decide) (by decide)]; exact h5 A a b e, fun j hj => by rw [hk 47 _ rfl (by decide) (by decide)]; exact h6 j hj⟩
section
variable (d : Nat) (fm : Value) (X : Nat × (Nat → Int32)) (s : Nat → Nat → Int32) (t : Nat → Nat → Int64)
variable {nc nd nt : Nat} {PT PG PB PF : List (List Ins)}
theorem t_Pl_prepareClerk (hC : CI s nc nd nt PT PG PB PF) {c op : Nat} (hc : c < nc) (hop : op < 2 ^ nd) : ab_T g_Pl_prepareClerk (d + 5) (0, 0) [.ref 45, .int (nI c), .int (nI op)] (HA fm X s t) (fun v h => v = none ∧ ∃ s' can, h = HA fm X s' (ab_up t 46 c can) ∧ PJ s PT PB nd c op 64 s' can) := by
  have h5 : nc ≤ 5 := hC.1.2.1
  have h6 : nd ≤ 6 := hC.1.2.2.2.1
  refine ab_T_of (M := m_Pl_prepareClerk) rfl rfl (Nat.le_of_ble_eq_true rfl) ?_
  show ab_Z m_Pl_prepareClerk _ _ _ 0 [_, _, _, _, _, _, _, _, _] [] _
  refine ab_go ok_Pl_prepareClerk 3 rfl ?_
  show ab_Z m_Pl_prepareClerk _ _ _ 3 [_, _, _, _, _, _, _, _, _] [_, _] _
  refine ab_cl ok_Pl_prepareClerk rfl [_, _] [] rfl ⟨_, _, rfl, rfl, Or.inl ⟨_, _, rfl, rfl⟩⟩ (Nat.le_of_ble_eq_true rfl) (t_Ha_sealedBy (d + 2) fm X s t _ hC.1.2.2.1 h6) ?_
  rintro _ _ ⟨rfl, rfl⟩
  show ab_Z m_Pl_prepareClerk _ _ _ 4 [_, _, _, _, _, _, _, _, _] [_] _
  rw [show bcF (nI (bitsN (fun k => decide (s 11 (33 + k) = nI c)) nd)) = nsV s nd c from rfl]
  refine ab_go ok_Pl_prepareClerk 3 rfl ?_
  show ab_Z m_Pl_prepareClerk _ _ _ 7 [_, _, _, _, _, _, _, _, _] [] _
  generalize hPo : (fun v h => v = none ∧ ∃ s' can, h = HA fm X s' (ab_up t 46 c can) ∧ PJ s PT PB nd c op 64 s' can : Option Value → ab_H → Prop) = Po
  refine lp_dn 3 (fun f => ∀ s1, KpQ 48 49 s s1 → (∀ g, g < f → s1 48 g = s 11 (3 * c + g)) → ab_Z m_Pl_prepareClerk (d + 5) (0, 0) Po 7 [some (.ref 45), some (.int (nI c)), some (.int (nI op)), some (.int (nsV s nd c)), some (.int (nI f)), none, none, none, none] [] (HA fm X s1 t)) ?_ ?_ s (KpQ.rf 48 49 s) (fun g hg => absurd hg (by omega))
  · intro s1 hk q
    refine ab_go ok_Pl_prepareClerk 2 rfl ?_
    show ab_Z m_Pl_prepareClerk _ _ _ 9 [_, _, _, _, _, _, _, _, _] [_, _] _
    refine ab_go ok_Pl_prepareClerk 1 rfl ?_
    show ab_Z m_Pl_prepareClerk _ _ _ 22 [_, _, _, _, _, _, _, _, _] [] _
    refine ab_go ok_Pl_prepareClerk 4 rfl ?_
    show ab_Z m_Pl_prepareClerk _ _ _ 26 [_, _, _, _, _, _, _, _, _] [] _
    have J0 : PJ s PT PB nd c op (2 ^ 0) s1 1 := by
      refine ⟨fun x k a _ e f => hk x k a e f, fun A hA => ?_, fun A a _ f hf => ?_, fun e a _ _ r _ => ?_, fun A a b _ => ?_, fun j _ => hk 47 j rfl (by decide) (by decide)⟩
      · rw [hsF_1 hA]
        by_cases h0 : A = 0
        · subst h0; rw [plC_0]; rfl
        · rw [decide_eq_false h0, decide_eq_false (show ¬ A < 2 ^ 0 by omega)]; rfl
      · obtain rfl : A = 0 := by omega
        rw [show 3 * 0 + f = f by omega, q f hf]
        have := plL_hi s PT nd c (e := 0) (A := 0) (by decide) 6 f
        rw [Nat.zero_add] at this
        rw [this]
        rfl
      · have : 0 < 2 ^ e := Nat.two_pow_pos e
        omega
      · omega
    refine lp_dn nd (fun e => ∀ s1 can, PJ s PT PB nd c op (2 ^ e) s1 can → ab_Z m_Pl_prepareClerk (d + 5) (0, 0) Po 26 [some (.ref 45), some (.int (nI c)), some (.int (nI op)), some (.int (nsV s nd c)), some (.long can), none, some (.int (nI e)), none, none] [] (HA fm X s1 t)) ?_ ?_ s1 1 J0
    · intro s1 can J
      have hC1 := CI_h J.toH hC
      refine ab_go ok_Pl_prepareClerk 5 rfl ?_
      show ab_Z m_Pl_prepareClerk _ _ _ 31 [_, _, _, _, _, _, _, _, _] [_, _] _
      rw [hC1.1.2.2.1]
      refine ab_br ok_Pl_prepareClerk rfl rfl ?_ ?_
      · intro h1
        show ab_Z m_Pl_prepareClerk _ _ _ 89 [_, _, _, _, _, _, _, _, _] [] _
        refine ab_go ok_Pl_prepareClerk 4 rfl ?_
        show ab_Z m_Pl_prepareClerk _ _ _ 93 [_, _, _, _, _, _, _, _, _] [_, _, _] _
        refine ab_cl ok_Pl_prepareClerk rfl [_, _, _] [] rfl rfl (Nat.le_of_ble_eq_true rfl) (t_SF_putLong_46 (d + 4) fm X s1 t _ c _ (show c < 5 by omega) rfl) ?_
        rintro _ _ ⟨rfl, rfl⟩
        show ab_Z m_Pl_prepareClerk _ _ _ 94 [_, _, _, _, _, _, _, _, _] [] _
        have J6 : PJ s PT PB nd c op 64 s1 can := by
          refine J.no (show 2 ^ nd ≤ 2 ^ 6 from Nat.pow_le_pow_right (by decide) h6) (fun A a b => ?_)
          have : ∃ e, e < 6 ∧ 2 ^ e ≤ A ∧ A < 2 ^ (e + 1) ∧ nd ≤ e := by
            rcases Nat.lt_or_ge A (2 ^ (nd + 1)) with h | h
            · refine ⟨nd, ?_, a, h, Nat.le_refl _⟩
              rcases Nat.lt_or_ge nd 6 with z | z
              · exact z
              · have : 2 ^ 6 ≤ 2 ^ nd := Nat.pow_le_pow_right (by decide) z
                omega
            · have tr : ∀ k, k ≤ 6 → A < 2 ^ k → nd < k → ∃ e, e < 6 ∧ 2 ^ e ≤ A ∧ A < 2 ^ (e + 1) ∧ nd ≤ e := by
                intro k
                induction k with
                | zero => intro _ hl _; omega
                | succ k ih =>
                  intro hk hl hn
                  rcases Nat.lt_or_ge A (2 ^ k) with z | z
                  · rcases Nat.lt_or_ge nd k with y | y
                    · exact ih (by omega) z y
                    · obtain rfl : nd = k := by omega
                      omega
                  · exact ⟨k, by omega, z, hl, by omega⟩
              refine tr 6 (by omega) b ?_
              rcases Nat.lt_or_ge nd 6 with z | z
              · exact z
              · have : 2 ^ 6 ≤ 2 ^ nd := Nat.pow_le_pow_right (by decide) z
                omega
          obtain ⟨e, he, l1, l2, hne⟩ := this
          rw [Nat.pow_succ] at l2
          obtain ⟨a', rfl⟩ : ∃ a', A = 2 ^ e + a' := ⟨A - 2 ^ e, by omega⟩
          rw [plC_top s PT nd c op he (by omega), tb_hi hop hne, Bool.false_and, Bool.and_false]
        exact ab_rV ok_Pl_prepareClerk rfl (by rw [← hPo]; exact ⟨rfl, s1, can, rfl, J6⟩)
      · intro h1
        show ab_Z m_Pl_prepareClerk _ _ _ 32 [_, _, _, _, _, _, _, _, _] [] _
        exact absurd (lp_out nd) h1
    · intro e he ih s1 can J
      have he6 : e < 6 := by omega
      have hpe : 2 ^ e ≤ 32 := (Nat.pow_le_pow_right (by decide) (show e ≤ 5 by omega) : 2 ^ e ≤ 2 ^ 5)
      have hC1 := CI_h J.toH hC
      refine ab_go ok_Pl_prepareClerk 5 rfl ?_
      show ab_Z m_Pl_prepareClerk _ _ _ 31 [_, _, _, _, _, _, _, _, _] [_, _] _
      rw [hC1.1.2.2.1]
      refine ab_br ok_Pl_prepareClerk rfl rfl ?_ ?_
      · intro h1
        show ab_Z m_Pl_prepareClerk _ _ _ 89 [_, _, _, _, _, _, _, _, _] [] _
        exact absurd h1 (lp_in (by omega) he)
      · intro h1
        show ab_Z m_Pl_prepareClerk _ _ _ 32 [_, _, _, _, _, _, _, _, _] [] _
        refine ab_go ok_Pl_prepareClerk 2 rfl ?_
        show ab_Z m_Pl_prepareClerk _ _ _ 34 [_, _, _, _, _, _, _, _, _] [] _
        refine lp_dn (2 ^ e) (fun a => ∀ s1 can, PJ s PT PB nd c op (2 ^ e + a) s1 can → ab_Z m_Pl_prepareClerk (d + 5) (0, 0) Po 34 [some (.ref 45), some (.int (nI c)), some (.int (nI op)), some (.int (nsV s nd c)), some (.long can), none, some (.int (nI e)), some (.int (nI a)), none] [] (HA fm X s1 t)) ?_ ?_ s1 can (by exact J)
        · intro s1 can J
          refine ab_go ok_Pl_prepareClerk 4 rfl ?_
          show ab_Z m_Pl_prepareClerk _ _ _ 38 [_, _, _, _, _, _, _, _, _] [_, _] _
          rw [nI_shl e (by omega)]
          refine ab_br ok_Pl_prepareClerk rfl rfl ?_ ?_
          · intro h2
            show ab_Z m_Pl_prepareClerk _ _ _ 87 [_, _, _, _, _, _, _, _, _] [] _
            refine ab_go ok_Pl_prepareClerk 2 rfl ?_
            show ab_Z m_Pl_prepareClerk _ _ _ 26 [_, _, _, _, _, _, _, _, _] [] _
            have ih2 := ih s1 can (by rw [Nat.pow_succ, Nat.mul_two]; exact J)
            rw [nI_succ] at ih2
            exact ih2
          · intro h2
            show ab_Z m_Pl_prepareClerk _ _ _ 39 [_, _, _, _, _, _, _, _, _] [] _
            exact absurd (lp_out _) h2
        · intro a ha ih3 s1 can J
          have hA : 2 ^ e + a < 64 := by omega
          have hC1 := CI_h J.toH hC
          refine ab_go ok_Pl_prepareClerk 4 rfl ?_
          show ab_Z m_Pl_prepareClerk _ _ _ 38 [_, _, _, _, _, _, _, _, _] [_, _] _
          rw [nI_shl e (by omega)]
          refine ab_br ok_Pl_prepareClerk rfl rfl ?_ ?_
          · intro h2
            show ab_Z m_Pl_prepareClerk _ _ _ 87 [_, _, _, _, _, _, _, _, _] [] _
            exact absurd h2 (lp_in (by omega) ha)
          · intro h2
            show ab_Z m_Pl_prepareClerk _ _ _ 39 [_, _, _, _, _, _, _, _, _] [] _
            refine ab_go ok_Pl_prepareClerk 2 rfl ?_
            show ab_Z m_Pl_prepareClerk _ _ _ 41 [_, _, _, _, _, _, _, _, _] [_, _] _
            refine ab_cl ok_Pl_prepareClerk rfl [_, _] [] rfl rfl (Nat.le_of_ble_eq_true rfl) (t_SF_hasBit (d + 4) _ _ (nI e)) ?_
            rintro _ _ ⟨rfl, rfl⟩
            show ab_Z m_Pl_prepareClerk _ _ _ 42 [_, _, _, _, _, _, _, _, _] [_] _
            rw [hbF_nI op (by omega)]
            refine ab_br ok_Pl_prepareClerk rfl rfl ?_ ?_
            · intro h3
              show ab_Z m_Pl_prepareClerk _ _ _ 87 [_, _, _, _, _, _, _, _, _] [] _
              refine ab_go ok_Pl_prepareClerk 2 rfl ?_
              show ab_Z m_Pl_prepareClerk _ _ _ 26 [_, _, _, _, _, _, _, _, _] [] _
              have ih2 := ih s1 can (J.no (by rw [Nat.pow_succ]; omega) (fun A a1 b1 => by
                rw [Nat.pow_succ] at b1
                obtain ⟨a', rfl⟩ : ∃ a', A = 2 ^ e + a' := ⟨A - 2 ^ e, by omega⟩
                rw [plC_top s PT nd c op he6 (by omega), bB_0.mp h3, Bool.false_and, Bool.and_false]))
              rw [nI_succ] at ih2
              exact ih2
            · intro h3
              show ab_Z m_Pl_prepareClerk _ _ _ 43 [_, _, _, _, _, _, _, _, _] [] _
              have hopn := bB_n0 h3
              have htop := plC_top s PT nd c op he6 ha
              rw [hopn, Bool.true_and] at htop
              refine ab_go ok_Pl_prepareClerk 8 rfl ?_
              show ab_Z m_Pl_prepareClerk _ _ _ 51 [_, _, _, _, _, _, _, _, _] [_, _] _
              rw [nI_shl e (by omega), nI_or, or_top ha]
              refine ab_cl ok_Pl_prepareClerk rfl [_, _] [] rfl rfl (Nat.le_of_ble_eq_true rfl) (t_Pl_hasSet (d + 4) _ can (nI a)) ?_
              rintro _ _ ⟨rfl, rfl⟩
              show ab_Z m_Pl_prepareClerk _ _ _ 52 [_, _, _, _, _, _, _, _, _] [_] _
              rw [J.2.1 a (by omega), decide_eq_true (show a < 2 ^ e + a by have := Nat.two_pow_pos e; omega), Bool.true_and]
              refine ab_br ok_Pl_prepareClerk rfl rfl ?_ ?_
              · intro h4
                show ab_Z m_Pl_prepareClerk _ _ _ 85 [_, _, _, _, _, _, _, _, _] [] _
                refine ab_go ok_Pl_prepareClerk 2 rfl ?_
                show ab_Z m_Pl_prepareClerk _ _ _ 34 [_, _, _, _, _, _, _, _, _] [] _
                have ih2 := ih3 s1 can (J.no (Nat.le_succ _) (fun A a1 b1 => by
                  obtain rfl : A = 2 ^ e + a := by omega
                  rw [htop, bB_0.mp h4, Bool.false_and]))
                rw [nI_succ] at ih2
                exact ih2
              · intro h4
                show ab_Z m_Pl_prepareClerk _ _ _ 53 [_, _, _, _, _, _, _, _, _] [] _
                have hca := bB_n0 h4
                rw [hca, Bool.true_and] at htop
                refine ab_go ok_Pl_prepareClerk 6 rfl ?_
                show ab_Z m_Pl_prepareClerk _ _ _ 59 [_, _, _, _, _, _, _, _, _] [_, _, _, _, _, _] _
                refine ab_cl ok_Pl_prepareClerk rfl [_] [_, _, _, _, _] rfl rfl (Nat.le_of_ble_eq_true rfl) (t_JI_bitCount (d + 4) _ _) ?_
                rintro _ _ ⟨rfl, rfl⟩
                show ab_Z m_Pl_prepareClerk _ _ _ 60 [_, _, _, _, _, _, _, _, _] [_, _, _, _, _, _] _
                refine ab_go ok_Pl_prepareClerk 1 rfl ?_
                show ab_Z m_Pl_prepareClerk _ _ _ 61 [_, _, _, _, _, _, _, _, _] [_, _, _, _, _] _
                have lk : ∀ f, plL s PT nd c a 6 f = plL s PT nd c a e f := fun f => by
                  have := plL_hi s PT nd c ha (6 - e) f
                  rw [show e + (6 - e) = 6 by omega] at this
                  exact this
                refine ab_cl ok_Pl_prepareClerk rfl [_, _, _, _, _] [] rfl ⟨_, _, rfl, rfl, Or.inl ⟨_, _, rfl, rfl⟩⟩ (Nat.le_of_ble_eq_true rfl) (t_Pl_canSealLast d fm X s1 t hC1 hc he6 ha (nsV s nd c + bcF (nI a)) (plL s PT nd c a e) (fun f hf => by rw [J.2.2.1 a (by have := Nat.two_pow_pos e; omega) hca f hf, lk f])) ?_
                rintro _ _ ⟨rfl, s2, rfl, hk2, r1, r2, r3, r4⟩
                show ab_Z m_Pl_prepareClerk _ _ _ 62 [_, _, _, _, _, _, _, _, _] [_] _
                have eT : (fun f => tkV s1 PT c e f (plL s PT nd c a e f) (nsV s nd c + bcF (nI a))) = plT s PT nd c a e := funext fun f => by
                  unfold plT plN
                  rw [tkV_h J.toH, Nat.mod_eq_of_lt ha]
                have eTf : ∀ f, tkV s1 PT c e f (plL s PT nd c a e f) (nsV s nd c + bcF (nI a)) = plT s PT nd c a e f := fun f => congrFun eT f
                rw [eT] at r3 ⊢
                rw [show (enF (plL s PT nd c a e) (plT s PT nd c a e) 3 && decide (0 < rsF (plL s PT nd c a e) (plT s PT nd c a e) 3)) = plO s PT nd c a e from rfl]
                have J2 := J.put hk2 r2 r4
                refine ab_br ok_Pl_prepareClerk rfl rfl ?_ ?_
                · intro h5
                  show ab_Z m_Pl_prepareClerk _ _ _ 85 [_, _, _, _, _, _, _, _, _] [] _
                  refine ab_go ok_Pl_prepareClerk 2 rfl ?_
                  show ab_Z m_Pl_prepareClerk _ _ _ 34 [_, _, _, _, _, _, _, _, _] [] _
                  have ih2 := ih3 s2 can (J2.no (Nat.le_succ _) (fun A a1 b1 => by
                    obtain rfl : A = 2 ^ e + a := by omega
                    rw [htop, bB_0.mp h5]))
                  rw [nI_succ] at ih2
                  exact ih2
                · intro h5
                  show ab_Z m_Pl_prepareClerk _ _ _ 63 [_, _, _, _, _, _, _, _, _] [] _
                  rw [bB_n0 h5] at htop
                  refine ab_go ok_Pl_prepareClerk 18 rfl ?_
                  show ab_Z m_Pl_prepareClerk _ _ _ 81 [_, _, _, _, _, _, _, _, _] [_, _, _, _, _, _, _] _
                  refine ab_cl ok_Pl_prepareClerk rfl [_] [_, _, _, _, _, _] rfl rfl (Nat.le_of_ble_eq_true rfl) (t_JI_bitCount (d + 4) _ _) ?_
                  rintro _ _ ⟨rfl, rfl⟩
                  show ab_Z m_Pl_prepareClerk _ _ _ 82 [_, _, _, _, _, _, _, _, _] [_, _, _, _, _, _, _] _
                  refine ab_go ok_Pl_prepareClerk 1 rfl ?_
                  show ab_Z m_Pl_prepareClerk _ _ _ 83 [_, _, _, _, _, _, _, _, _] [_, _, _, _, _, _] _
                  have hC2 := CI_h J2.toH hC
                  have p9 : ∀ e', e' < 6 → (2 ^ e + a).testBit e' = true → s2 49 ((2 ^ e + a) % 2 ^ (e' + 1)) = plP s PT nd c (2 ^ e + a) e' := by
                    intro e' he' hb
                    have hee : e' ≤ e := by
                      rcases Nat.lt_or_ge e e' with z | z
                      · rw [tb_hi (A := 2 ^ e + a) (e := e + 1) (by rw [Nat.pow_succ]; omega) z] at hb
                        cases hb
                      · exact z
                    rcases Nat.lt_or_ge e' e with z | z
                    · have hB := plC_md (e' + 1) htop
                      rw [← plP_md s PT nd c (2 ^ e + a) (k := e' + 1) (Nat.le_succ e')]
                      have hlt : (2 ^ e + a) % 2 ^ (e' + 1) < 2 ^ (e' + 1) := Nat.mod_lt _ (Nat.two_pow_pos _)
                      have hle : 2 ^ (e' + 1) ≤ 2 ^ e := Nat.pow_le_pow_right (by decide) z
                      have hbt : ((2 ^ e + a) % 2 ^ (e' + 1)).testBit e' = true := by rw [Nat.testBit_mod_two_pow, hb, decide_eq_true (Nat.lt_succ_self _)]; rfl
                      have hge : 2 ^ e' ≤ (2 ^ e + a) % 2 ^ (e' + 1) := by
                        rcases Nat.lt_or_ge ((2 ^ e + a) % 2 ^ (e' + 1)) (2 ^ e') with y | y
                        · rw [Nat.testBit_lt_two_pow y] at hbt; cases hbt
                        · exact y
                      generalize (2 ^ e + a) % 2 ^ (e' + 1) = B at hB hlt hge ⊢
                      obtain ⟨b, rfl⟩ : ∃ b, B = 2 ^ e' + b := ⟨B - 2 ^ e', by omega⟩
                      rw [Nat.pow_succ] at hlt
                      exact J2.2.2.2.1 e' b he' (by omega) (by omega) hB
                    · obtain rfl : e' = e := by omega
                      rw [Nat.mod_eq_of_lt (show 2 ^ e' + a < 2 ^ (e' + 1) by rw [Nat.pow_succ]; omega), r3]
                      unfold plP
                      rw [show plT s PT nd c (2 ^ e' + a) e' = plT s PT nd c a e' from funext fun f => plT_lo s PT nd c (Nat.le_refl _)]
                  refine ab_cl ok_Pl_prepareClerk rfl [_, _, _, _] [_, _] rfl ⟨_, _, rfl, rfl, Or.inl ⟨_, _, rfl, rfl⟩⟩ (Nat.le_of_ble_eq_true rfl) (t_Pl_scoreOf d fm X s2 t hC2 hc hA (nsV s nd c + bcF (nI (2 ^ e + a))) (plP s PT nd c (2 ^ e + a)) p9) ?_
                  rintro _ _ ⟨rfl, s3, rfl, hk3⟩
                  show ab_Z m_Pl_prepareClerk _ _ _ 84 [_, _, _, _, _, _, _, _, _] [_, _, _] _
                  rw [scF_h J2.toH, show scF s PB c (2 ^ e + a) (nsV s nd c + bcF (nI (2 ^ e + a))) (plP s PT nd c (2 ^ e + a)) 6 = plS s PT PB nd c (2 ^ e + a) from rfl]
                  refine ab_cl ok_Pl_prepareClerk rfl [_, _, _] [] rfl rfl (Nat.le_of_ble_eq_true rfl) (t_SF_put_47 (d + 4) fm X s3 t _ (64 * c + (2 ^ e + a)) _ (by omega) (ix64 c _)) ?_
                  rintro _ _ ⟨rfl, rfl⟩
                  show ab_Z m_Pl_prepareClerk _ _ _ 85 [_, _, _, _, _, _, _, _, _] [] _
                  refine ab_go ok_Pl_prepareClerk 2 rfl ?_
                  show ab_Z m_Pl_prepareClerk _ _ _ 34 [_, _, _, _, _, _, _, _, _] [] _
                  have J3 : PJ s PT PB nd c op (2 ^ e + a + 1) (ab_up s3 47 (64 * c + (2 ^ e + a)) (plS s PT PB nd c (2 ^ e + a))) (can ||| ((1 : Int64) <<< ((nI (2 ^ e + a)).toInt64 &&& 63))) := by
                    obtain ⟨j1, j2, j3, j4, j5, j6⟩ := J2
                    refine ⟨fun x k a b f g => ?_, fun A hA' => ?_, fun A l b f hf => ?_, fun e1 a1 p1 q1 l1 u1 => ?_, fun A l b f => ?_, fun j hj => ?_⟩
                    · rw [ab_up_o b, hk3 x k a]; exact j1 x k a b f g
                    · rw [hsF_or can hA hA', j2 A hA']
                      by_cases hAA : A = 2 ^ e + a
                      · subst hAA; rw [htop]; simp
                      · rw [decide_eq_false hAA, Bool.or_false]
                        by_cases hq : A < 2 ^ e + a
                        · rw [decide_eq_true hq, decide_eq_true (show A < 2 ^ e + a + 1 by omega)]
                        · rw [decide_eq_false hq, decide_eq_false (show ¬ A < 2 ^ e + a + 1 by omega)]
                    · rw [ab_up_o (by decide), hk3 48 _ rfl]
                      by_cases hAA : A = 2 ^ e + a
                      · subst hAA; rw [r1 f hf, plL_top s PT nd c he6 ha, lk f, eTf]
                      · exact j3 A (by omega) b f hf
                    · rw [ab_up_o (by decide), hk3 49 _ rfl]
                      by_cases hAA : 2 ^ e1 + a1 = 2 ^ e + a
                      · have hee : e1 = e := by
                          rcases Nat.lt_trichotomy e1 e with z | z | z
                          · have : 2 ^ (e1 + 1) ≤ 2 ^ e := Nat.pow_le_pow_right (by decide) z
                            rw [Nat.pow_succ] at this
                            omega
                          · exact z
                          · have : 2 ^ (e + 1) ≤ 2 ^ e1 := Nat.pow_le_pow_right (by decide) z
                            rw [Nat.pow_succ] at this
                            omega
                        subst hee
                        obtain rfl : a1 = a := by omega
                        rw [r3]
                        unfold plP
                        rw [show plT s PT nd c (2 ^ e1 + a1) e1 = plT s PT nd c a1 e1 from funext fun f => plT_lo s PT nd c (Nat.le_refl _)]
                      · exact j4 e1 a1 p1 q1 (by omega) u1
                    · by_cases hAA : A = 2 ^ e + a
                      · subst hAA; rw [ab_up_s]
                      · rw [ab_up_n (by omega), hk3 47 _ rfl]; exact j5 A (by omega) b f
                    · rw [ab_up_n (by omega), hk3 47 _ rfl]; exact j6 j hj
                  have ih2 := ih3 _ _ J3
                  rw [nI_succ] at ih2
                  exact ih2
  · intro f hf ih s1 hk q
    refine ab_go ok_Pl_prepareClerk 2 rfl ?_
    show ab_Z m_Pl_prepareClerk _ _ _ 9 [_, _, _, _, _, _, _, _, _] [_, _] _
    refine ab_br ok_Pl_prepareClerk rfl rfl ?_ ?_
    · intro h1
      show ab_Z m_Pl_prepareClerk _ _ _ 22 [_, _, _, _, _, _, _, _, _] [] _
      exact absurd h1 (lp_in (N := 3) (by decide) hf)
    · intro h1
      show ab_Z m_Pl_prepareClerk _ _ _ 10 [_, _, _, _, _, _, _, _, _] [] _
      refine ab_go ok_Pl_prepareClerk 8 rfl ?_
      show ab_Z m_Pl_prepareClerk _ _ _ 18 [_, _, _, _, _, _, _, _, _] [_, _, _, _, _] _
      refine ab_cl ok_Pl_prepareClerk rfl [_, _, _] [_, _] rfl ⟨_, _, rfl, rfl, Or.inl ⟨_, _, rfl, rfl⟩⟩ (Nat.le_of_ble_eq_true rfl) (t_Sc_levelOf (d + 3) fm X s1 t (show c < 5 by omega) hf) ?_
      rintro _ _ ⟨rfl, rfl⟩
      show ab_Z m_Pl_prepareClerk _ _ _ 19 [_, _, _, _, _, _, _, _, _] [_, _, _] _
      rw [hk 11 _ rfl (by decide) (by decide)]
      refine ab_cl ok_Pl_prepareClerk rfl [_, _, _] [] rfl rfl (Nat.le_of_ble_eq_true rfl) (t_SF_put_48 (d + 4) fm X s1 t _ f _ (by omega) rfl) ?_
      rintro _ _ ⟨rfl, rfl⟩
      show ab_Z m_Pl_prepareClerk _ _ _ 20 [_, _, _, _, _, _, _, _, _] [] _
      refine ab_go ok_Pl_prepareClerk 2 rfl ?_
      show ab_Z m_Pl_prepareClerk _ _ _ 7 [_, _, _, _, _, _, _, _, _] [] _
      have ih2 := ih _ (hk.up1 (k := f) (v := s 11 (3 * c + f))) (fun g hg => by
        by_cases hgf : g = f
        · subst hgf; rw [ab_up_s]
        · rw [ab_up_n hgf]; exact q g (by omega))
      rw [nI_succ] at ih2
      exact ih2
end

