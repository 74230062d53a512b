/-! the invariant is kept by what only writes scratch -/
def scA (c k : Nat) : Bool := scr1 c k || c == 13 || (decide (53 ≤ c) && decide (c ≤ 56)) || w4 c k
def KAl (s s' : Nat → Nat → Int32) : Prop := ∀ c k, scA c k = false → s' c k = s c k
theorem KAl.rf (s : Nat → Nat → Int32) : KAl s s := fun _ _ _ => rfl
theorem KAl.tr {a b c : Nat → Nat → Int32} (h : KAl a b) (g : KAl b c) : KAl a c := fun x k p => (g x k p).trans (h x k p)
theorem KAl.row {a b : Nat → Nat → Int32} (h : KAl a b) {c : Nat} (hc : ∀ k, scA c k = false) : b c = a c := funext fun k => h c k (hc k)
theorem w4_lo {c : Nat} (h : c ≤ 80) (k : Nat) : w4 c k = false := by
  unfold w4 w3 w2 w1
  simp
  omega
theorem scA_lo {c k : Nat} (h : 14 ≤ c) (h2 : c ≤ 44) (hs : scr1 c k = false) : scA c k = false := by
  unfold scA
  rw [hs, w4_lo (by omega)]
  simp
  omega
theorem scr1_hi {c : Nat} (h : 38 ≤ c) (k : Nat) : scr1 c k = false := by
  unfold scr1
  simp
  omega
theorem scA_hi {c k : Nat} (h : 81 ≤ c) (hw : w4 c k = false) : scA c k = false := by
  unfold scA
  rw [hw, scr1_hi (by omega)]
  simp
  omega
theorem KpC.A {a b : Nat → Nat → Int32} (h : KpC a b) : KAl a b := fun x k p => by
  unfold scA at p
  simp only [Bool.or_eq_false_iff, Bool.and_eq_false_iff] at p
  obtain ⟨⟨⟨p1, p2⟩, p3⟩, -⟩ := p
  refine h x k p1 (by simpa using p2) (fun z => ?_)
  rcases p3 with p3 | p3
  · exact absurd z.1 (of_decide_eq_false p3)
  · exact absurd z.2 (of_decide_eq_false p3)
theorem Kr.A {a b : Nat → Nat → Int32} (h : Kr w4 a b) : KAl a b := fun x k p => by
  unfold scA at p
  exact h x k (Bool.or_eq_false_iff.mp p).2
theorem IM.of {s s' : Nat → Nat → Int32} {x : Tx} {w m : Nat} (h17 : s' 17 = s 17) (h3 : s' 38 3 = s 38 3) (h4 : s' 38 4 = s 38 4) (h56 : s' 81 56 = s 81 56) (h39 : s' 39 = s 39) (h119 : s' 119 = s 119) (h : IM s x w m) : IM s' x w m := by
  unfold IM
  rw [h17, h3, h4, h56, h39, h119]
  exact h
theorem IS.of {s s' : Nat → Nat → Int32} {x : Tx} (h17 : s' 17 = s 17) (h2 : s' 38 2 = s 38 2) (h127 : s' 127 = s 127) (h40 : s' 40 = s 40) (h128 : s' 128 = s 128) (h : IS s x) : IS s' x := by
  unfold IS
  rw [h17, h2, h127, h40, h128]
  exact h
theorem IOt.of {s s' : Nat → Nat → Int32} (h3 : s' 41 3 = s 41 3) (h42 : s' 42 = s 42) (h43 : s' 43 = s 43) (h44 : s' 44 = s 44) (h63 : s' 81 63 = s 81 63) (h124 : s' 124 = s 124) (h125 : s' 125 = s 125) (h126 : s' 126 = s 126) (h : IOt s) : IOt s' := by
  unfold IOt TI RTo
  rw [h3, h42, h43, h44, h63, h124, h125, h126]
  exact h
theorem IP.of {s s' : Nat → Nat → Int32} (h11 : s' 1 1 = s 1 1) (h81 : s' 81 2 = s 81 2) (h2 : s' 2 = s 2) (h82 : s' 82 = s 82) (h : IP s) : IP s' := by
  unfold IP
  rw [h11, h81, h2, h82]
  exact h
theorem IW.of {s s' : Nat → Nat → Int32} {t t' : Nat → Nat → Int64} (h09 : s' 0 9 = s 0 9) (h17 : s' 81 17 = s 81 17) (h85 : s' 8 5 = s 8 5) (ht : t' 7 = t 7 ∧ t' 88 = t 88) (h : IW s t) : IW s' t' := by
  unfold IW WdC WdR
  rw [h09, h17, h85, ht.1, ht.2]
  exact h
theorem IL.of {n n' : Nat} {s s' : Nat → Nat → Int32} {t t' : Nat → Nat → Int64} {x : Tx} (hn : n ≤ n') (h10 : s' 10 1 = s 10 1) (h45 : s' 45 7 = s 45 7) (hk : K4 s s') (h47 : s' 47 = s 47) (ht : t' 46 = t 46) (h : IL n s t x) : IL n' s' t' x := by
  obtain ⟨a, h1, h2, h3, h4⟩ := h
  refine ⟨a, h10.trans h1, by omega, by rw [h45]; exact h3, fun z => POk_4 hk h47 ht (h4 (by rw [← h45, ← h10]; exact z))⟩
theorem INV.ka {n : Nat} {s s' : Nat → Nat → Int32} {t : Nat → Nat → Int64} (h : KAl s s') (g : INV n s t) : INV (n + 1) s' t := by
  obtain ⟨x, lv, w, m, hT, hG, hM, hS, hO, hP, hW, hL⟩ := g
  have r : ∀ c, (∀ k, scA c k = false) → s' c = s c := fun c hc => h.row hc
  have e17 := r 17 (fun _ => rfl)
  refine ⟨x, lv, w, m, hT.of (fun c k h1 h2 h3 => h c k (scA_lo h1 (by omega) h3)) ⟨rfl, rfl⟩ (fun c h1 h2 => r c fun k => scA_hi (by omega) ?_) (h 81 18 rfl), ?_, hM.of e17 (h 38 3 rfl) (h 38 4 rfl) (h 81 56 rfl) (r 39 fun _ => rfl) (r 119 fun _ => rfl), hS.of e17 (h 38 2 rfl) (r 127 fun _ => rfl) (r 40 fun _ => rfl) (r 128 fun _ => rfl), hO.of (h 41 3 rfl) (r 42 fun _ => rfl) (r 43 fun _ => rfl) (r 44 fun _ => rfl) (h 81 63 rfl) (r 124 fun _ => rfl) (r 125 fun _ => rfl) (r 126 fun _ => rfl), hP.of (h 1 1 rfl) (h 81 2 rfl) (r 2 fun _ => rfl) (r 82 fun _ => rfl), hW.of (h 0 9 rfl) (h 81 17 rfl) (h 8 5 rfl) ⟨rfl, rfl⟩, hL.of (by omega) (h 10 1 rfl) (h 45 7 rfl) ⟨r 11 fun _ => rfl, r 16 fun _ => rfl, r 19 fun _ => rfl, r 20 fun _ => rfl⟩ (r 47 fun _ => rfl) rfl⟩
  · unfold w4 w3 w2 w1
    simp
    omega
  · rw [e17, r 11 fun _ => rfl, r 114 fun _ => rfl]
    exact hG
/-! a call of the class and the same call of the reference -/
abbrev PM2 (gM : ab_Sg) (dM : Nat) (X : Nat × (Nat → Int32)) (xs : List Value) (n : Nat) (s1 : Nat → Nat → Int32) (t1 : Nat → Nat → Int64) (r : Int32) : Prop := ∀ fm, ab_T gM dM (0, 0) (.ref 81 :: xs) (HA fm X s1 t1) (PQ false (fun r' s2 t2 e => r' = r ∧ e = false ∧ INV n s2 t2) fm X)
def Pair (gS gM : ab_Sg) (dS dM : Nat) (X : Nat × (Nat → Int32)) (xs : List Value) (n : Nat) (s : Nat → Nat → Int32) (t : Nat → Nat → Int64) : Prop := ∀ fm, ab_T gS dS (0, 0) (.ref 0 :: xs) (HA fm X s t) (PQ false (fun r s1 t1 _ => PM2 gM dM X xs n s1 t1 r) fm X)
theorem pair_q {gS gM : ab_Sg} {dS dM n : Nat} {X : Nat × (Nat → Int32)} {xs : List Value} {s : Nat → Nat → Int32} {t : Nat → Nat → Int64} {r : Int32} (h : INV n s t) (hS : ∀ fm, ab_T gS dS (0, 0) (.ref 0 :: xs) (HA fm X s t) (PC r fm X s t)) (hM : ∀ fm s1, KpC s s1 → ab_T gM dM (0, 0) (.ref 81 :: xs) (HA fm X s1 t) (PR w4 r fm X s1 t)) : Pair gS gM dS dM X xs (n + 1) s t := by
  intro fm
  refine ab_T_mono (hS fm) ?_
  rintro v _ ⟨rfl, s1, rfl, k1⟩
  refine ⟨r, s1, t, false, rfl, rfl, fun fm => ab_T_mono (hM fm s1 k1) ?_⟩
  rintro v _ ⟨rfl, s2, rfl, k2⟩
  exact ⟨r, s2, t, false, rfl, rfl, rfl, rfl, h.ka (k1.A.tr k2.A)⟩
theorem mref {s s1 : Nat → Nat → Int32} {t : Nat → Nat → Int64} {x : Tx} {lv : Nat} (hT : IT s t x lv) (hG : GR (s 17) (xNc x) (xNd x) (s 11) (s 114)) (hk : KpC s s1) : RC s1 lv s (xNc x) (xNd x) (xNt x) (xLw x 0) (xLw x 1) (xLw x 2) (xLw x 3) ∧ vR s (xNc x) (xNd x) (s1 114) = s := by
  have e : ∀ c, 81 ≤ c → s1 c = s c := fun c hc => funext fun k => hk c k (scr1_hi (by omega) k) (by omega) (by omega)
  exact ⟨hT.R' e, by rw [e 114 (by decide)]; exact hG.V⟩
theorem P2.C {g : ab_Sg} {d : Nat} {vs : List Value} {h : ab_H} {r : Int32} {fm : Value} {X : Nat × (Nat → Int32)} {s : Nat → Nat → Int32} {t : Nat → Nat → Int64} (k : ab_T g d (0, 0) vs h (P2 r fm X s t)) : ab_T g d (0, 0) vs h (PC r fm X s t) := ab_T_mono k fun _ _ z => ⟨z.1, z.2.choose, z.2.choose_spec.1, z.2.choose_spec.2.toC⟩

