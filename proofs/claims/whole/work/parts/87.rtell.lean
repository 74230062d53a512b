section
variable (d : Nat) (fm : Value) (X : Nat × (Nat → Int32)) (s : Nat → Nat → Int32) (t : Nat → Nat → Int64)
variable {K P v : Nat → Nat} {nm : Nat → List Nat}
theorem t_Mo_tellLaw (hT : TM s t K P v nm) {cl c0 ce b0 be : Nat} (he : ce ≤ 840) (hbe : be ≤ 260) (hb5 : b0 + 5 ≤ be) (hcl : cl ≤ c0) {sd k : Nat} (hsd : s 81 19 = nI sd) (hs2 : sd < 2) (hk4 : k < 4) {R : Rs Nat} (hR : RdM s K P R) (h36 : s 81 36 = nI b0) (hc0 : ∀ n, R = .inl n → s 81 42 = nI c0 ∧ c0 + 420 ≤ ce + n ∧ s 81 12 = 0) : ab_T g_Mo_tellLaw (d + 5) (0, 0) [.ref 81, .int (nI k)] (HA fm X s t) (fun r h => r = none ∧ ∃ s', h = HA fm X s' t ∧ KTl c0 ce b0 be (4 * sd + k) s s' ∧ RdM s' K P (mpT Prod.fst (bnd R (lawE K v))) ∧ ∀ n q, R = .inl n → lawE K v n = .inl q → ∃ j c, j ≤ 4 ∧ s' 81 36 = nI (b0 + (j + 1)) ∧ s' 81 42 = nI c ∧ c0 ≤ c ∧ c + 420 ≤ ce + q.1 ∧ s' 81 12 = 0 ∧ s' 102 (4 * sd + k) = nI b0 ∧ s' 103 (4 * sd + k) = nI (b0 + (j + 1)) ∧ RBM s' cl c b0 j q.2 ∧ n + 4 * j + 3 ≤ q.1) := by
  generalize hPo : (fun r h => r = none ∧ ∃ s', h = HA fm X s' t ∧ KTl c0 ce b0 be (4 * sd + k) s s' ∧ RdM s' K P (mpT Prod.fst (bnd R (lawE K v))) ∧ ∀ n q, R = .inl n → lawE K v n = .inl q → ∃ j c, j ≤ 4 ∧ s' 81 36 = nI (b0 + (j + 1)) ∧ s' 81 42 = nI c ∧ c0 ≤ c ∧ c + 420 ≤ ce + q.1 ∧ s' 81 12 = 0 ∧ s' 102 (4 * sd + k) = nI b0 ∧ s' 103 (4 * sd + k) = nI (b0 + (j + 1)) ∧ RBM s' cl c b0 j q.2 ∧ n + 4 * j + 3 ≤ q.1 : Option Value → ab_H → Prop) = Po
  have hF : ∀ e, bnd R (lawE K v) = .inr e → ∀ s2, KB c0 ce b0 be s s2 → RdM s2 K P (.inr e) → Po none (HA fm X s2 t) := fun e hE s2 k2 hR2 => by
    rw [← hPo]
    refine ⟨rfl, s2, rfl, k2.tl, by rw [hE]; exact hR2, fun n q hn hq => ?_⟩
    rw [hn, bnd_l, hq] at hE
    cases hE
  refine ab_T_of (M := m_Mo_tellLaw) rfl rfl (Nat.le_of_ble_eq_true rfl) ?_
  show ab_Z m_Mo_tellLaw _ _ _ 0 [_, _, _, _] [] _
  refine ab_go ok_Mo_tellLaw 2 rfl ?_
  show ab_Z m_Mo_tellLaw _ _ _ 2 [_, _, _, _] [_, _] _
  refine ab_cl ok_Mo_tellLaw rfl [_, _] [] rfl ⟨_, _, rfl, rfl, Or.inl ⟨_, _, rfl, rfl⟩⟩ (Nat.le_of_ble_eq_true rfl) (t_Mo_must (d + 2) fm X s t hT hR (w := 61) (by decide) (by decide) _ rfl) ?_
  rintro _ _ ⟨rfl, s1, rfl, k1, hR1⟩
  show ab_Z m_Mo_tellLaw _ _ _ 3 [_, _, _, _] [] _
  refine ab_go ok_Mo_tellLaw 5 rfl ?_
  show ab_Z m_Mo_tellLaw _ _ _ 8 [_, _, _, _] [] _
  have h36' : s1 81 36 = nI b0 := (k1 81 36 (by omega)).trans h36
  rw [h36']
  have kB : KB c0 ce b0 be s s1 := k1.x.b
  cases hq : bnd R (eatT K 61) with
  | inr e =>
    rw [hq] at hR1
    have hE : bnd R (lawE K v) = .inr e := by
      cases R with
      | inr e' => cases hq; rfl
      | inl n =>
        rw [bnd_l] at hq ⊢
        unfold lawE
        rw [hq]
        rfl
    exact (l_bad d fm X s t hT he hbe (hF e hE) _ _ _).2.2.2.2.2.2.1 s1 b0 kB hR1 h36' (Nat.le_refl _) (by omega)
  | inl n2 =>
    rw [hq] at hR1
    obtain ⟨n, hn, hn2⟩ := bnd_in hq
    have hup := eat_up hn2
    obtain ⟨q1, q2, q3⟩ := hc0 n hn
    have hE : bnd R (lawE K v) = endL K (lawL K v 4 n2 []) := by
      rw [hn, bnd_l]
      unfold lawE
      rw [hn2]
      rfl
    refine l_main d fm X s t hT he hbe hb5 hcl (n2 := n2) hsd hs2 hk4 (F := bnd R (lawE K v)) hF ?_ 4 0 n2 [] c0 s1 rfl hE.symm ⟨kB, hR1, h36', (k1 81 42 (by omega)).trans q1, Nat.le_refl _, by omega, (k1 81 12 (by omega)).trans q3, rfl, by omega⟩
    intro q hFq s2 j c hj kT hR2 a1 a2 a3 a4 a5 a6 a7 a8 a9
    rw [← hPo]
    refine ⟨rfl, s2, rfl, kT, by rw [hFq]; exact hR2, fun n' q' hn' hq' => ?_⟩
    rw [hn] at hn'
    cases hn'
    rw [hn, bnd_l, hq'] at hFq
    cases hFq
    exact ⟨j, c, hj, a1, a2, a3, a4, a5, a6, a7, a8, by omega⟩
end
/-! names -/
def nmA (s : Nat → Nat → Int32) (t : Nat → Nat → Int64) (l : List (List Nat × Nat)) : Prop := ∀ j q, l[j]? = some q → t 89 j = lN (cdL 27 q.1) ∧ s 90 j = nI q.2 ∧ nmO q.1 ∧ q.2 ≤ 10
def lHas (l : List (List Nat × Nat)) (w : List Nat) : Bool := l.any fun q => decide (q.1 = w)
def lDeed (l : List (List Nat × Nat)) (w : List Nat) : Int32 := match l.find? fun q => decide (q.1 = w) && decide (q.2 < 10) with
  | some q => nI q.2
  | none => -1
def NmM (s : Nat → Nat → Int32) (t : Nat → Nat → Int64) (x : Tx) : Prop := ∃ l, s 81 20 = nI l.length ∧ l.length = xNc x + xNd x ∧ nmA s t l ∧ (∀ w, hasX x w = lHas l w) ∧ ∀ w, deedX x w = lDeed l w
theorem nmA.of {s s' : Nat → Nat → Int32} {t t' : Nat → Nat → Int64} {l : List (List Nat × Nat)} (h1 : s' 90 = s 90) (h2 : t' 89 = t 89) (h : nmA s t l) : nmA s' t' l := by
  intro j q hq
  rw [h1, h2]
  exact h j q hq
theorem nmA.add {s : Nat → Nat → Int32} {t : Nat → Nat → Int64} {l : List (List Nat × Nat)} {w : List Nat} {e : Nat} (h : nmA s t l) (hw : nmO w) (he : e ≤ 10) : nmA (ab_up s 90 l.length (nI e)) (ab_up t 89 l.length (lN (cdL 27 w))) (l ++ [(w, e)]) := by
  intro j q hq
  by_cases hj : j < l.length
  · rw [List.getElem?_append_left hj] at hq
    rw [ab_up_n (by omega), ab_up_n (by omega)]
    exact h j q hq
  · by_cases hj2 : j = l.length
    · subst hj2
      rw [List.getElem?_append_right (Nat.le_refl _), Nat.sub_self] at hq
      cases hq
      rw [ab_up_s, ab_up_s]
      exact ⟨rfl, rfl, hw, he⟩
    · have : (l ++ [(w, e)]).length ≤ j := by rw [List.length_append]; simp only [List.length_singleton]; omega
      rw [List.getElem?_eq_none this] at hq
      cases hq
theorem lHas_add (l : List (List Nat × Nat)) (q : List Nat × Nat) (w : List Nat) : lHas (l ++ [q]) w = (lHas l w || decide (q.1 = w)) := by
  unfold lHas
  rw [List.any_append]
  simp
theorem anyN_c {p q : Nat → Bool} : ∀ {n : Nat}, (∀ k, k < n → p k = q k) → anyN p n = anyN q n
  | 0, _ => rfl
  | n + 1, h => by rw [anyN, anyN, anyN_c (fun k hk => h k (by omega)), h n (by omega)]
theorem fstM_c {p q : Nat → Bool} : ∀ {n k : Nat}, (∀ j, k ≤ j → j < k + n → p j = q j) → fstM p k n = fstM q k n
  | 0, k, _ => rfl
  | n + 1, k, h => by rw [fstM, fstM, h k (by omega) (by omega), fstM_c (fun j p q => h j (by omega) (by omega))]
theorem fstM_s (p : Nat → Bool) (n : Nat) (hn : n < 100) : fstM p 0 (n + 1) = if fstM p 0 n = -1 then (if p n = true then nI n else -1) else fstM p 0 n := by
  have ne : ∀ j, j < 100 → ¬ nI j = -1 := by decide
  rcases fstM_or p n 0 with ⟨h1, h2⟩ | ⟨j, h1, h2, h3, h4⟩
  · rw [if_pos h1]
    by_cases hp : p n = true
    · rw [if_pos hp]
      exact fstM_at hp (n + 1) 0 (Nat.zero_le _) (by omega) (fun j a b => h2 j a (by omega))
    · rw [if_neg hp]
      refine fstM_no p (n + 1) 0 (fun j a b => ?_)
      by_cases hj : j = n
      · rw [hj]; exact Bool.eq_false_iff.mpr hp
      · exact h2 j a (by omega)
  · rw [if_neg (by rw [h4]; exact ne j (by omega))]
    obtain ⟨m, m1, m2, m3, m4⟩ : ∃ m, m < n ∧ p m = true ∧ (∀ j, j < m → p j = false) ∧ fstM p 0 n = nI m := by
      have : ∀ n, (∃ j, j < n ∧ p j = true) → ∃ m, m < n ∧ p m = true ∧ ∀ j, j < m → p j = false := by
        intro n
        induction n with
        | zero => rintro ⟨j, h, -⟩; omega
        | succ n ih =>
          rintro ⟨j, a, b⟩
          by_cases hx : ∃ j, j < n ∧ p j = true
          · obtain ⟨m, m1, m2, m3⟩ := ih hx
            exact ⟨m, by omega, m2, m3⟩
          · have hjn : j = n := by
              by_cases hj : j < n
              · exact absurd ⟨j, hj, b⟩ hx
              · omega
            subst hjn
            refine ⟨j, by omega, b, fun i hi => ?_⟩
            by_cases hpi : p i = true
            · exact absurd ⟨i, hi, hpi⟩ hx
            · exact Bool.eq_false_iff.mpr hpi
      obtain ⟨m, m1, m2, m3⟩ := this n ⟨j, by omega, h3⟩
      exact ⟨m, m1, m2, m3, fstM_at m2 n 0 (Nat.zero_le _) (by omega) (fun i _ hi => m3 i hi)⟩
    rw [m4]
    exact fstM_at m2 (n + 1) 0 (Nat.zero_le _) (by omega) (fun i _ hi => m3 i hi)
theorem lDeed_add (l : List (List Nat × Nat)) (q : List Nat × Nat) (w : List Nat) (hl : ∀ q ∈ l, q.2 ≤ 10) : lDeed (l ++ [q]) w = if lDeed l w = -1 then (if q.1 = w ∧ q.2 < 10 then nI q.2 else -1) else lDeed l w := by
  have ne : ∀ j, j < 11 → ¬ nI j = -1 := by decide
  unfold lDeed
  rw [List.find?_append]
  cases h : l.find? (fun q => decide (q.1 = w) && decide (q.2 < 10)) with
  | some z =>
    have hz := List.mem_of_find?_eq_some h
    rw [Option.some_or]
    dsimp only
    rw [if_neg (ne z.2 (by have := hl z hz; omega))]
  | none =>
    rw [Option.none_or]
    dsimp only
    rw [if_pos rfl]
    by_cases hq : q.1 = w ∧ q.2 < 10
    · rw [if_pos hq]
      have : (decide (q.1 = w) && decide (q.2 < 10)) = true := by rw [decide_eq_true hq.1, decide_eq_true hq.2]; rfl
      rw [List.find?_cons, this]
    · rw [if_neg hq]
      have : (decide (q.1 = w) && decide (q.2 < 10)) = false := by
        rw [Bool.and_eq_false_iff]
        by_cases h1 : q.1 = w
        · exact Or.inr (decide_eq_false (fun z => hq ⟨h1, z⟩))
        · exact Or.inl (decide_eq_false h1)
      rw [List.find?_cons, this]
      rfl
theorem nmA.le {s : Nat → Nat → Int32} {t : Nat → Nat → Int64} {l : List (List Nat × Nat)} (h : nmA s t l) : ∀ q ∈ l, q.2 ≤ 10 := fun q hq => by
  obtain ⟨j, hj⟩ := List.getElem?_of_mem hq
  exact (h j q hj).2.2.2
theorem NmM.clk {s : Nat → Nat → Int32} {t : Nat → Nat → Int64} {x x' : Tx} (h : NmM s t x) {w : List Nat} (hw : nmO w) {n : Nat} (hn : s 81 20 = nI n) (hn9 : n < 100) (h9 : xNc x + xNd x < 100) (e1 : xNc x' = xNc x + 1) (e2 : xCn x' = updN (xCn x) (xNc x) w) (e3 : x'.2.1 = x.2.1) : NmM (ab_up (ab_up s 90 n (nI 10)) 81 20 (nI (n + 1))) (ab_up t 89 n (lN (cdL 27 w))) x' := by
  obtain ⟨l, a1, a2, a3, a4, a5⟩ := h
  have hl : l.length = n := (nI_eq (by omega) (by omega)).mp (a1.symm.trans hn)
  have e4 : xNd x' = xNd x := by unfold xNd; rw [e3]
  have e5 : xDn x' = xDn x := by unfold xDn; rw [e3]
  refine ⟨l ++ [(w, 10)], ?_, ?_, ?_, fun u => ?_, fun u => ?_⟩
  · rw [ab_up_s, List.length_append, hl]; rfl
  · rw [List.length_append, e1, e4]; simp only [List.length_singleton]; omega
  · have := a3.add hw (Nat.le_refl 10)
    rw [hl] at this
    exact this.of (ab_up_o (by decide)) rfl
  · rw [lHas_add, ← a4 u]
    unfold hasX
    rw [e4, e5, e1, anyN]
    have h1 : anyN (fun c => decide (xCn x' c = u)) (xNc x) = anyN (fun c => decide (xCn x c = u)) (xNc x) := anyN_c (fun k hk => by rw [e2]; unfold updN; rw [if_neg (by omega)])
    have h2 : xCn x' (xNc x) = w := by rw [e2]; unfold updN; rw [if_pos rfl]
    rw [h1, h2]
    cases anyN (fun c => decide (xCn x c = u)) (xNc x) <;> cases anyN (fun e => decide (xDn x e = u)) (xNd x) <;> cases decide (w = u) <;> rfl
  · rw [lDeed_add l _ u a3.le, ← a5 u]
    have : deedX x' u = deedX x u := by unfold deedX; rw [e4, e5]
    rw [this, if_neg (show ¬ (w = u ∧ 10 < 10) by omega)]
    split
    · assumption
    · rfl
theorem NmM.ded {s : Nat → Nat → Int32} {t : Nat → Nat → Int64} {x x' : Tx} (h : NmM s t x) {w : List Nat} (hw : nmO w) {n : Nat} (hn : s 81 20 = nI n) (hn9 : n < 100) (h9 : xNc x + xNd x < 100) (h6 : xNd x < 6) (e1 : xNd x' = xNd x + 1) (e2 : xDn x' = updN (xDn x) (xNd x) w) (e3 : x'.1 = x.1) : NmM (ab_up (ab_up s 90 n (nI (xNd x))) 81 20 (nI (n + 1))) (ab_up t 89 n (lN (cdL 27 w))) x' := by
  obtain ⟨l, a1, a2, a3, a4, a5⟩ := h
  have hl : l.length = n := (nI_eq (by omega) (by omega)).mp (a1.symm.trans hn)
  have e4 : xNc x' = xNc x := by unfold xNc; rw [e3]
  have e5 : xCn x' = xCn x := by unfold xCn; rw [e3]
  have hk : ∀ u k, k < xNd x → decide (xDn x' k = u) = decide (xDn x k = u) := fun u k hk => by rw [e2]; unfold updN; rw [if_neg (by omega)]
  have h2 : xDn x' (xNd x) = w := by rw [e2]; unfold updN; rw [if_pos rfl]
  refine ⟨l ++ [(w, xNd x)], ?_, ?_, ?_, fun u => ?_, fun u => ?_⟩
  · rw [ab_up_s, List.length_append, hl]; rfl
  · rw [List.length_append, e1, e4]; simp only [List.length_singleton]; omega
  · have := a3.add hw (show xNd x ≤ 10 by omega)
    rw [hl] at this
    exact this.of (ab_up_o (by decide)) rfl
  · rw [lHas_add, ← a4 u]
    unfold hasX
    rw [e4, e5, e1, anyN, anyN_c (hk u), h2]
    cases anyN (fun c => decide (xCn x c = u)) (xNc x) <;> cases anyN (fun e => decide (xDn x e = u)) (xNd x) <;> cases decide (w = u) <;> rfl
  · rw [lDeed_add l _ u a3.le, ← a5 u]
    unfold deedX
    rw [e1, fstM_s _ _ (by omega), fstM_c (fun j _ hj => hk u j (by omega)), h2]
    by_cases hwu : w = u
    · rw [decide_eq_true hwu, if_pos rfl, if_pos (show w = u ∧ xNd x < 10 from ⟨hwu, by omega⟩)]
    · rw [decide_eq_false hwu, if_neg (show ¬ false = true by decide), if_neg (show ¬ (w = u ∧ xNd x < 10) from fun z => hwu z.1)]

