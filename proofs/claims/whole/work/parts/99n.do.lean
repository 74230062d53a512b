/-! a thing done, on both sides -/
set_option maxRecDepth 4000 in
theorem ring_push {g C R ring his : Nat → Int32} {nc nd w m : Nat} (h5 : nc ≤ 5) (h6 : nd ≤ 6) (hw : w < 40) (hm : m ≤ 40) (hcur : GR g nc nd C R) (hold : ∀ i, i < m → GR g nc nd (fun j => ring (40 * ((w + 40 - m + i) % 40) + j)) (fun j => his (40 * i + j))) : ∀ i, i < (if m < 40 then m + 1 else 40) → GR g nc nd (fun j => va_cpy C ring 0 (40 * w) 40 (40 * (((if w + 1 < 40 then w + 1 else 0) + 40 - (if m < 40 then m + 1 else 40) + i) % 40) + j)) (fun j => hisF his R m (40 * i + j)) := by
  intro i hi
  have cur : ∀ p, p = w → ∀ j, j < 40 → va_cpy C ring 0 (40 * w) 40 (40 * p + j) = C j := fun p hp j hj => by
    subst hp
    unfold va_cpy
    rw [if_pos (by omega)]
    congr 1; omega
  have oth : ∀ p, p ≠ w → ∀ j, j < 40 → va_cpy C ring 0 (40 * w) 40 (40 * p + j) = ring (40 * p + j) := fun p hp j hj => by
    unfold va_cpy
    rw [if_neg (by omega)]
  by_cases h4 : m < 40
  · rw [if_pos h4] at hi ⊢
    by_cases e : i = m
    · subst e
      refine GR.cg h5 h6 rfl (cur _ (by split <;> omega)) (fun j hj => ?_) hcur
      unfold hisF fillR
      rw [if_pos h4, if_pos (by omega)]
      congr 1; omega
    · refine GR.cg h5 h6 rfl (fun j hj => (oth _ (by split <;> omega) j hj).trans ?_) (fun j hj => ?_) (hold i (by omega))
      · show ring _ = ring _
        congr 1
        split <;> omega
      · unfold hisF fillR
        rw [if_pos h4, if_neg (by omega)]
  · rw [if_neg h4] at hi ⊢
    have e4 : m = 40 := by omega
    subst e4
    by_cases e : i = 39
    · subst e
      refine GR.cg h5 h6 rfl (cur _ (by split <;> omega)) (fun j hj => ?_) hcur
      unfold hisF fillR
      rw [if_neg h4, if_pos (by omega)]
      show R (40 * 39 + j - 1560) = R j
      rw [show 40 * 39 + j - 1560 = j by omega]
    · refine GR.cg h5 h6 rfl (fun j hj => (oth _ (by split <;> omega) j hj).trans ?_) (fun j hj => ?_) (hold (i + 1) (by omega))
      · show ring _ = ring _
        congr 1
        split <;> omega
      · unfold hisF fillR hsh
        rw [if_neg h4, if_neg (by omega), if_pos (by omega)]
        show his _ = his _
        congr 1; omega
theorem w4_txt {c : Nat} (h1 : 91 ≤ c) (h2 : c ≤ 110) (k : Nat) : w4 c k = false := by
  unfold w4 w3 w2 w1
  simp
  omega
theorem IL.up {n k : Nat} {s s' : Nat → Nat → Int32} {t t' : Nat → Nat → Int64} {x x' : Tx} (hn : n ≤ 511) (hk0 : 0 < k) (hk : k ≤ 2000) (h10 : s' 10 1 = s 10 1 + nI k) (h45 : s' 45 7 = s 45 7) (h : IL n s t x) : IL (n + 1) s' t' x' := by
  obtain ⟨a, h1, h2, h3, -⟩ := h
  have e : s' 10 1 = nI (a + k) := by rw [h10, h1, nI_add]
  refine ⟨a + k, e, by omega, ?_, fun z => ?_⟩
  · rw [h45]
    rcases h3 with h3 | ⟨b, h3, h4⟩
    · exact Or.inl h3
    · exact Or.inr ⟨b, by omega, h4⟩
  · exfalso
    rw [h45, e] at z
    rcases h3 with h3 | ⟨b, h3, h4⟩
    · rw [h3] at z
      have := congrArg Int32.toInt z
      rw [nI_t (by omega)] at this
      have h0 : (-1 : Int32).toInt = -1 := rfl
      omega
    · rw [h4] at z
      have := (nI_eq (show b < 2 ^ 31 by omega) (show a + k < 2 ^ 31 by omega)).mp z
      omega
theorem INV.rec {n k w m lv : Nat} {s s1 s2 : Nat → Nat → Int32} {t : Nat → Nat → Int64} {x : Tx} {r : Nat → Int32} (hn : n ≤ 511) (hT : IT s t x lv) (hG : GR (s 17) (xNc x) (xNd x) (s 11) (s 114)) (hM : IM s x w m) (hS : IS s x) (hO : IOt s) (hP : IP s) (hW : IW s t) (hL : IL n s t x) (M : Mm s s1 w m r k) (R : RecV s1 s2 s (xNc x) (xNd x) m r) (hQ : QI (ab_ro s 11 r) (xNc x) (xNd x) (xNt x)) (hk0 : 0 < k) (hk : k ≤ 2000) : INV (n + 1) s2 t := by
  have h5 : xNc x ≤ 5 := hT.C.2.1
  have h6 : xNd x ≤ 6 := hT.C.2.2.2.1
  obtain ⟨m1, m2, m3, m4, m5, m6⟩ := M
  obtain ⟨r1, r2, r3, r4, r5⟩ := R
  have o : ∀ c k, scr1 c k = false → c ≠ 13 → c ≠ 11 → ¬ (c = 10 ∧ k = 1) → c ≠ 39 → ¬ (c = 38 ∧ (k = 3 ∨ k = 4)) → w4 c k = false → c ≠ 119 → c ≠ 114 → ¬ (c = 81 ∧ k = 56) → s2 c k = s c k := fun c k a1 a2 a3 a4 a5 a6 a7 a8 a9 a10 => (r1 c k a7 a8 a9 a10).trans (m6 c k a1 a2 a3 a4 a5 a6)
  have row : ∀ c, (∀ k, scr1 c k = false) → c ≠ 13 → c ≠ 11 → c ≠ 10 → c ≠ 39 → c ≠ 38 → (∀ k, w4 c k = false) → c ≠ 119 → c ≠ 114 → c ≠ 81 → s2 c = s c := fun c a1 a2 a3 a4 a5 a6 a7 a8 a9 a10 => funext fun k => o c k (a1 k) a2 a3 (by omega) a5 (by omega) (a7 k) a8 a9 (by omega)
  have q : ∀ c, c = 2 ∨ c = 16 ∨ c = 17 ∨ c = 19 ∨ c = 20 ∨ c = 40 ∨ c = 42 ∨ c = 43 ∨ c = 44 ∨ c = 47 ∨ c = 82 ∨ c = 124 ∨ c = 125 ∨ c = 126 ∨ c = 127 ∨ c = 128 → s2 c = s c := fun c hc => by
    rcases hc with rfl | rfl | rfl | rfl | rfl | rfl | rfl | rfl | rfl | rfl | rfl | rfl | rfl | rfl | rfl | rfl <;> exact row _ (fun _ => rfl) (by decide) (by decide) (by decide) (by decide) (by decide) (fun _ => rfl) (by decide) (by decide) (by decide)
  have cl : ∀ c k, c ≠ 119 → c ≠ 114 → c ≠ 81 → w4 c k = false → s2 c k = s1 c k := fun c k a b c' d => r1 c k d a b (by omega)
  have e11 : s2 11 = r := by rw [← m1]; exact funext fun k => cl 11 k (by decide) (by decide) (by decide) rfl
  have e39 : s2 39 = va_cpy (s 11) (s 39) 0 (40 * w) 40 := by rw [← m3]; exact funext fun k => cl 39 k (by decide) (by decide) (by decide) rfl
  have s114 : s1 114 = s 114 := funext fun k => m6 114 k rfl (by decide) (by decide) (by omega) (by decide) (by omega)
  have s119 : s1 119 = s 119 := funext fun k => m6 119 k rfl (by decide) (by decide) (by omega) (by decide) (by omega)
  have e17 := q 17 (by decide)
  rw [s114, hG.V] at r4
  have hg : GR (s 17) (xNc x) (xNd x) r (s2 114) := GR.do h5 h6 r4 hQ (fun j hj => by rw [r5 j hj, s114]; exact hG.2.2.2.2 j hj)
  refine ⟨x, lv, if w + 1 < 40 then w + 1 else 0, if m < 40 then m + 1 else 40, hT.of (fun c k h1 h2 h3 => o c k h3 (by omega) (by omega) (by omega) (by omega) (by omega) (w4_lo (by omega) k) (by omega) (by omega) (by omega)) ⟨rfl, rfl⟩ (fun c h1 h2 => row c (fun k => scr1_hi (by omega) k) (by omega) (by omega) (by omega) (by omega) (by omega) (fun k => w4_txt h1 h2 k) (by omega) (by omega) (by omega)) (o 81 18 rfl (by decide) (by decide) (by decide) (by decide) (by decide) rfl (by decide) (by decide) (by decide)), ?_, ?_, ?_, ?_, ?_, ?_, ?_⟩
  · rw [e17, e11]; exact hg
  · refine ⟨?_, by split <;> omega, ?_, by split <;> omega, r3, ?_⟩
    · rw [cl 38 3 (by decide) (by decide) (by decide) rfl, m4]
    · rw [cl 38 4 (by decide) (by decide) (by decide) rfl, m5]
    · rw [e17, e39, r2, s119, s114]
      exact ring_push h5 h6 hM.2.1 hM.2.2.2.1 hG hM.2.2.2.2.2
  · exact hS.of e17 (o 38 2 rfl (by decide) (by decide) (by decide) (by decide) (by decide) rfl (by decide) (by decide) (by decide)) (q 127 (by decide)) (q 40 (by decide)) (q 128 (by decide))
  · exact hO.of (o 41 3 rfl (by decide) (by decide) (by decide) (by decide) (by decide) rfl (by decide) (by decide) (by decide)) (q 42 (by decide)) (q 43 (by decide)) (q 44 (by decide)) (o 81 63 rfl (by decide) (by decide) (by decide) (by decide) (by decide) rfl (by decide) (by decide) (by decide)) (q 124 (by decide)) (q 125 (by decide)) (q 126 (by decide))
  · exact hP.of (o 1 1 rfl (by decide) (by decide) (by decide) (by decide) (by decide) rfl (by decide) (by decide) (by decide)) (o 81 2 rfl (by decide) (by decide) (by decide) (by decide) (by decide) rfl (by decide) (by decide) (by decide)) (q 2 (by decide)) (q 82 (by decide))
  · exact hW.of (o 0 9 rfl (by decide) (by decide) (by decide) (by decide) (by decide) rfl (by decide) (by decide) (by decide)) (o 81 17 rfl (by decide) (by decide) (by decide) (by decide) (by decide) rfl (by decide) (by decide) (by decide)) (o 8 5 rfl (by decide) (by decide) (by decide) (by decide) (by decide) rfl (by decide) (by decide) (by decide)) ⟨rfl, rfl⟩
  · refine IL.up hn hk0 hk ?_ (o 45 7 rfl (by decide) (by decide) (by decide) (by decide) (by decide) rfl (by decide) (by decide) (by decide)) hL
    rw [cl 10 1 (by decide) (by decide) (by decide) rfl, m2]
/-! rows stay good -/
theorem TV_r (s : Nat → Nat → Int32) (P : List (List Ins)) (nd c e f : Nat) : 0 ≤ (TV s P nd c e f).toInt ∧ (TV s P nd c e f).toInt ≤ 9 := held_r _ (by decide)
theorem enB_f {s : Nat → Nat → Int32} {P : List (List Ins)} {nd c e : Nat} : ∀ {k f : Nat}, enB s P nd c e k = true → f < k → ¬ s 11 (3 * c + f) < TV s P nd c e f
  | 0, f, _, h => absurd h (Nat.not_lt_zero f)
  | k + 1, f, h, hf => by
    rw [enB, Bool.and_eq_true] at h
    by_cases e : f = k
    · subst e
      simpa using h.2
    · exact enB_f h.1 (by omega)
theorem Q_seal {s : Nat → Nat → Int32} {PT : List (List Ins)} {nc nd nt c e : Nat} (h5 : nc ≤ 5) (h6 : nd ≤ 6) (hc : c < nc) (he : e < nd) (hb : canB s PT nd c e = true) (h : QI s nc nd nt) : QI (ab_ro s 11 (sealR s PT nd c e)) nc nd nt := by
  obtain ⟨⟨a1, a2⟩, b1, b2, b3⟩ := h
  have hen : enB s PT nd c e 3 = true := by
    unfold canB at hb
    exact (Bool.and_eq_true _ _ ▸ hb).1
  have e17 : ab_ro s 11 (sealR s PT nd c e) 17 = s 17 := ab_ro_o (by decide)
  have e20 : ab_ro s 11 (sealR s PT nd c e) 20 = s 20 := ab_ro_o (by decide)
  have e21 : ab_ro s 11 (sealR s PT nd c e) 21 = s 21 := ab_ro_o (by decide)
  unfold QI SI LI
  rw [e17, e20, e21, ab_ro_c]
  refine ⟨⟨fun d hd => ?_, a2⟩, fun c' f hc' hf => ?_, fun e' f he' hf => ?_, b3⟩
  · unfold sealR upd fillR
    by_cases hde : d = e
    · subst hde
      rw [if_pos rfl]
      exact Or.inr (Or.inr ⟨c, hc, rfl⟩)
    · rw [if_neg (by omega), if_neg (by omega), if_neg (by omega)]
      exact a1 d hd
  · obtain ⟨p1, p2, p3⟩ := b1 c' f hc' hf
    unfold sealR upd fillR
    by_cases hcc : c' = c
    · subst hcc
      rw [if_neg (by omega), if_neg (by omega), if_pos (by omega)]
      rw [show 3 * c' + f - 3 * c' = f by omega]
      obtain ⟨t1, t2⟩ := TV_r s PT nd c' e f
      have hl := i_nlt (enB_f hen hf)
      have hsub : (s 11 (3 * c' + f) - TV s PT nd c' e f).toInt = (s 11 (3 * c' + f)).toInt - (TV s PT nd c' e f).toInt := i_subI (by omega) (by omega)
      rw [hsub]
      omega
    · rw [if_neg (by omega), if_neg (by omega), if_neg (by omega)]
      exact ⟨p1, p2, p3⟩
  · unfold sealR upd fillR
    by_cases hee : e' = e
    · subst hee
      rw [if_neg (by omega), if_pos (by omega)]
      exact TV_r _ _ _ _ _ _
    · rw [if_neg (by omega), if_neg (by omega), if_neg (by omega)]
      exact b2 e' f he' hf
theorem Q_mark {s : Nat → Nat → Int32} {nc nd nt e : Nat} {v : Int32} {g : Nat → Int32} (h5 : nc ≤ 5) (h6 : nd ≤ 6) (he : e < nd) (hv : v = -2 ∨ v = -3) (hg : ∀ f, f < 3 → 0 ≤ (g f).toInt ∧ (g f).toInt ≤ 9) (h : QI s nc nd nt) : QI (ab_ro s 11 (upd (fillR (s 11) (15 + 3 * e) 3 g) (33 + e) v)) nc nd nt := by
  obtain ⟨⟨a1, a2⟩, b1, b2, b3⟩ := h
  generalize hr : upd (fillR (s 11) (15 + 3 * e) 3 g) (33 + e) v = r
  have e17 : ab_ro s 11 r 17 = s 17 := ab_ro_o (by decide)
  have e20 : ab_ro s 11 r 20 = s 20 := ab_ro_o (by decide)
  have e21 : ab_ro s 11 r 21 = s 21 := ab_ro_o (by decide)
  unfold QI SI LI
  rw [e17, e20, e21, ab_ro_c, ← hr]
  refine ⟨⟨fun d hd => ?_, a2⟩, fun c' f hc' hf => ?_, fun e' f he' hf => ?_, b3⟩
  · unfold upd fillR
    by_cases hde : d = e
    · subst hde
      rw [if_pos rfl]
      rcases hv with hv | hv
      · exact Or.inl hv
      · exact Or.inr (Or.inl hv)
    · rw [if_neg (by omega), if_neg (by omega)]
      exact a1 d hd
  · unfold upd fillR
    rw [if_neg (by omega), if_neg (by omega)]
    exact b1 c' f hc' hf
  · unfold upd fillR
    by_cases hee : e' = e
    · subst hee
      rw [if_neg (by omega), if_pos (by omega)]
      exact hg _ (by omega)
    · rw [if_neg (by omega), if_neg (by omega)]
      exact b2 e' f he' hf

