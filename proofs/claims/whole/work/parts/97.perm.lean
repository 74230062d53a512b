/-! the two texts' places exchanged: a contract holds in the other coordinates too -/
def pT (c : Nat) : Nat := if 14 ≤ c ∧ c ≤ 37 then c + 43 else if 57 ≤ c ∧ c ≤ 80 then c - 43 else c
theorem pT_pT (c : Nat) : pT (pT c) = c := by
  unfold pT
  by_cases h1 : 14 ≤ c ∧ c ≤ 37
  · rw [if_pos h1, if_neg (by omega), if_pos (by omega)]; omega
  · rw [if_neg h1]
    by_cases h2 : 57 ≤ c ∧ c ≤ 80
    · rw [if_pos h2, if_pos (by omega)]; omega
    · rw [if_neg h2, if_neg h1, if_neg h2]
theorem pT_hi {c : Nat} (h : 81 ≤ c) : pT c = c := by unfold pT; rw [if_neg (by omega), if_neg (by omega)]
theorem pT_lt {c : Nat} (h : c < 129) : pT c < 129 := by
  unfold pT
  split
  · omega
  · split <;> omega
def trv (v : Value) : Value := ab_tr pT v
theorem trv_trv (v : Value) : trv (trv v) = v := by
  cases v <;> first | rfl | skip
  show Value.ref (pT (pT _)) = _
  rw [pT_pT]
theorem tr_trv (as : Nat → Nat) (v : Value) : ab_tr (fun c => as (pT c)) (trv v) = ab_tr as v := by
  cases v <;> first | rfl | skip
  show Value.ref (as (pT (pT _))) = _
  rw [pT_pT]
  rfl
theorem trv_ok {fm : Value} (h : ab_vok 0 fm) : trv fm = fm := by
  cases fm <;> first | rfl | skip
  rename_i a
  show Value.ref (pT a) = Value.ref a
  rcases h with h | h
  · exact absurd h (Nat.not_lt_zero _)
  · rw [pT_hi (Nat.le_trans (by decide) h)]
def pP (h : ab_H) : ab_H := (h.1, fun c => h.2.1 (pT c), fun c => h.2.2.1 (pT c), fun c k => trv (h.2.2.2.1 (pT c) k), h.2.2.2.2)
theorem pP_pP (h : ab_H) : pP (pP h) = h := by
  obtain ⟨a, b, c, e, f⟩ := h
  unfold pP
  dsimp only
  rw [show (fun x => b (pT (pT x))) = b from funext fun x => by rw [pT_pT], show (fun x => c (pT (pT x))) = c from funext fun x => by rw [pT_pT], show (fun x k => trv (trv (e (pT (pT x)) k))) = e from funext fun x => funext fun k => by rw [pT_pT, trv_trv]]
theorem sh_pT0 : ∀ c, c < 129 → shA[pT c]? = shA[c]? := by decide +kernel
theorem sh_pT (c : Nat) : shA[pT c]? = shA[c]? := by
  by_cases h : c < 129
  · exact sh_pT0 c h
  · rw [pT_hi (by omega)]
theorem ce_pT (K : ab_K) (as : Nat → Nat) {h : ab_H} (hs : h.1 = shA) (c : Nat) : ab_cell K (fun c => as (pT c)) (pP h) c = ab_cell K as h (pT c) := by
  have e1 : (pP h).1[c]? = h.1[pT c]? := by show h.1[c]? = _; rw [hs, sh_pT]
  have e2 : ∀ k j, ab_fv (fun c => as (pT c)) (pP h) c k j = ab_fv as h (pT c) k j := fun k j => by
    unfold ab_fv
    split
    · rfl
    · exact tr_trv as _
  unfold ab_cell
  rw [e1]
  split <;> first | rfl | skip
  rename_i k n _
  show Sum.inr (k, (List.range n).map (ab_fv (fun c => as (pT c)) (pP h) c k)) = Sum.inr (k, (List.range n).map (ab_fv as h (pT c) k))
  rw [show ab_fv (fun c => as (pT c)) (pP h) c k = ab_fv as h (pT c) k from funext fun j => e2 k j]
theorem w_pT (K : ab_K) (as : Nat → Nat) {h : ab_H} (hs : h.1 = shA) (c : Nat) : (ab_w K (fun c => as (pT c)) (pP h))[c]? = (ab_w K as h)[pT c]? := by
  have hl : h.1.length = 129 := by rw [hs]; exact shA_len
  by_cases hc : c < 129
  · rw [ab_w_get K _ (pP h) (show c < (pP h).1.length by show c < h.1.length; omega), ab_w_get K as h (show pT c < h.1.length by have := pT_lt hc; omega), ce_pT K as hs]
  · rw [List.getElem?_eq_none (by rw [ab_w_len]; show h.1.length ≤ c; omega), List.getElem?_eq_none (by rw [ab_w_len, pT_hi (by omega)]; omega)]
theorem vP_pT {D : va_G} {K : ab_K} {as : Nat → Nat} {h : ab_H} (hs : h.1 = shA) {H : Heap} (g : va_P D vwCl (ab_w K as h) H) : va_P D vwCl (ab_w K (fun c => as (pT c)) (pP h)) H := fun k q hq => by
  rw [w_pT K as hs] at hq
  exact g (pT k) q hq
theorem vD_pT {A : Nat → Prop} {K : ab_K} {as : Nat → Nat} {h : ab_H} (hs : h.1 = shA) (g : va_D A (ab_w K as h)) : va_D A (ab_w K (fun c => as (pT c)) (pP h)) := ⟨fun i j p q hp hq e => by
    rw [w_pT K as hs] at hp hq
    have := g.1 (pT i) (pT j) p q hp hq e
    rw [← pT_pT i, this, pT_pT], fun k q hq => by
    rw [w_pT K as hs] at hq
    exact g.2 (pT k) q hq⟩
theorem vA_pT {K : ab_K} {as : Nat → Nat} {h : ab_H} (hs : h.1 = shA) (sz : Nat) : va_A (ab_w K (fun c => as (pT c)) (pP h)) sz = va_A (ab_w K as h) sz := by
  funext q
  apply propext
  unfold va_A
  constructor
  · rintro (⟨k, e, hk⟩ | hk)
    · rw [w_pT K as hs] at hk
      exact Or.inl ⟨pT k, e, hk⟩
    · exact Or.inr hk
  · rintro (⟨k, e, hk⟩ | hk)
    · refine Or.inl ⟨pT k, e, ?_⟩
      rw [w_pT K as hs, pT_pT]
      exact hk
    · exact Or.inr hk
theorem wf_pT {h : ab_H} {fm : Value} {X : Nat × (Nat → Int32)} (hs : h.1 = shA) (g : ab_wf h fm X) : ab_wf (pP h) fm X := by
  have hl : h.1.length = 129 := by rw [hs]; exact shA_len
  obtain ⟨g1, g2, g3, g4, g5⟩ := g
  refine ⟨fun c k => ?_, g2, ?_, g4, g5⟩
  · have h1 := g1 (pT c) k
    show ab_vok h.1.length (trv (h.2.2.2.1 (pT c) k))
    rw [hl] at h1 ⊢
    cases hv : h.2.2.2.1 (pT c) k <;> first | trivial | skip
    rename_i a
    rw [hv] at h1
    show pT a < 129 ∨ 9000 ≤ pT a
    rcases h1 with h1 | h1
    · exact Or.inl (pT_lt h1)
    · rw [pT_hi (Nat.le_trans (by decide) h1)]; exact Or.inr h1
  · show trv (h.2.2.2.1 (pT 9006) 0) = fm
    rw [pT_hi (by decide), g3]
    exact trv_ok g5
theorem st_pT {A : Nat → Prop} {as : Nat → Nat} {fm : Value} {X : Nat × (Nat → Int32)} {U : State} {H : Heap} (hfm : ab_vok 0 fm) (g : ab_St A as fm X U H) : ab_St A (fun c => as (pT c)) fm X U H := ab_St.ag (mc := 1) (n0 := 0) hfm g (fun c hc => by
  show as (pT c) = as c
  rw [pT_hi]
  rcases hc with h | h | h <;> omega)
theorem ab_T_perm {g : ab_Sg} {d : Nat} {vs : List Value} {h : ab_H} {Po Po' : Option Value → ab_H → Prop} (hs : h.1 = shA) (k : ab_T g d (0, 0) (vs.map trv) (pP h) Po') (hsh : ∀ v h', Po' v h' → h'.1 = shA) (hP : ∀ v h', Po' v h' → Po (v.map trv) (pP h')) : ab_T g d (0, 0) vs h Po := by
  intro l D K as sz fm X hwf
  have hfm := hwf.2.2.2.2
  have h1 := k l D K (fun c => as (pT c)) sz fm X (wf_pT hs hwf)
  rw [vA_pT hs] at h1
  intro p e ha hc hk s m args below hf happ hPr hK
  have hPr' : va_Pc ((vs.map trv).map (ab_tr fun c => as (pT c))) (ab_Pre D K (fun c => as (pT c)) (pP h) sz fm X) args s := by
    obtain ⟨e1, e2, e3, e4, e5, e6, e7⟩ := hPr
    refine ⟨?_, e2, vP_pT hs e3, e4, vD_pT hs e5, e6, ?_⟩
    · rw [e1, List.map_map, show (ab_tr fun c => as (pT c)) ∘ trv = ab_tr as from funext fun v => tr_trv as v]
    · rw [vA_pT hs]
      exact st_pT hfm e7
  obtain ⟨n, o, c1, c2, c3, ⟨⟨v, h', as', q1, q2, q3, q4, q5, q6, q7⟩, q8⟩, c4⟩ := h1 p e ha hc hk s m args below hf happ hPr' hK
  have hs' := hsh v h' q1
  have eas : ∀ c, as' c = as (pT c) := fun c => q7 c (Or.inr (Or.inr rfl))
  refine ⟨n, o, c1, c2, c3, ⟨⟨v.map trv, pP h', fun c => as' (pT c), hP v h' q1, ?_, vP_pT hs' q3, vD_pT hs' q4, wf_pT hs' q5, q6, fun c _ => ?_⟩, q8⟩, c4⟩
  · rw [q2, Option.map_map, show (ab_tr fun c => as' (pT c)) ∘ trv = ab_tr as' from funext fun v => tr_trv as' v]
  · show as' (pT c) = as c
    rw [eas, pT_pT]
/-! the heap behind a good reading, in the other coordinates -/
def roCL : List (List Value) := (roT.set 9 ((roT.getD 9 []).set 3 (.ref 57))).set 0 ((roT.getD 0 []).set 8 (.ref 14))
theorem roCL_p : ((List.range 129).map fun c => (roCL.getD (pT c) []).map trv) = roT := by rfl
theorem roC_e (fm : Value) (c k : Nat) : roC fm c k = if c = 9006 then fm else (roCL.getD c []).getD k .null := by
  unfold roC roB
  by_cases h0 : c = 0
  · subst h0
    rw [ab_up_c, if_neg (by decide)]
    show (if k = 8 then Value.ref 14 else ab_up (roA fm) 9 3 (.ref 57) 0 k) = ((roT.getD 0 []).set 8 (.ref 14)).getD k .null
    rw [ab_up_o (by decide), List.getD_eq_getElem?_getD, List.getElem?_set]
    by_cases hk : k = 8
    · subst hk; rfl
    · rw [if_neg hk, if_neg (fun z => hk z.symm), ← List.getD_eq_getElem?_getD]
      rfl
  · rw [ab_up_o h0]
    by_cases h9 : c = 9
    · subst h9
      rw [ab_up_c, if_neg (by decide)]
      show (if k = 3 then Value.ref 57 else roA fm 9 k) = ((roT.getD 9 []).set 3 (.ref 57)).getD k .null
      rw [List.getD_eq_getElem?_getD, List.getElem?_set]
      by_cases hk : k = 3
      · subst hk; rfl
      · rw [if_neg hk, if_neg (fun z => hk z.symm), ← List.getD_eq_getElem?_getD]
        rfl
    · rw [ab_up_o h9]
      unfold roA
      by_cases h6 : c = 9006
      · rw [if_pos h6, if_pos h6]
      · rw [if_neg h6, if_neg h6]
        congr 1
        unfold roCL
        rw [List.getD_eq_getElem?_getD, List.getD_eq_getElem?_getD, List.getElem?_set_ne (fun z => h0 z.symm), List.getElem?_set_ne (fun z => h9 z.symm)]
theorem roC_p (fm : Value) (c k : Nat) : trv (roC fm (pT c) k) = roA (trv fm) c k := by
  rw [roC_e]
  unfold roA
  by_cases h6 : c = 9006
  · subst h6
    rw [pT_hi (by decide), if_pos rfl, if_pos rfl]
  · rw [if_neg h6, if_neg (fun z => h6 (by rw [← pT_pT c, z]; rfl))]
    by_cases hc : c < 129
    · have h1 : roT.getD c [] = (roCL.getD (pT c) []).map trv := by
        rw [← roCL_p, List.getD_eq_getElem?_getD, List.getElem?_map, List.getElem?_range hc]
        rfl
      rw [h1]
      generalize roCL.getD (pT c) [] = l
      rw [List.getD_eq_getElem?_getD, List.getD_eq_getElem?_getD, List.getElem?_map]
      cases l[k]? <;> rfl
    · have h1 : roCL.length = 129 := by rfl
      have h2 : roT.length = 129 := by rfl
      rw [pT_hi (by omega), List.getD_eq_getElem?_getD (l := roCL), List.getElem?_eq_none (by omega), List.getD_eq_getElem?_getD (l := roT), List.getElem?_eq_none (by omega)]
      rfl
theorem pP_HC (fm : Value) (X : Nat × (Nat → Int32)) (s : Nat → Nat → Int32) (t : Nat → Nat → Int64) : pP (HC fm X s t) = HA (trv fm) X (fun c => s (pT c)) (fun c => t (pT c)) := by
  show (shA, (fun c => s (pT c)), (fun c => t (pT c)), (fun c k => trv (roC fm (pT c) k)), X) = _
  rw [show (fun c k => trv (roC fm (pT c) k)) = roA (trv fm) from funext fun c => funext fun k => roC_p fm c k]
theorem pP_HA (fm : Value) (X : Nat × (Nat → Int32)) (s : Nat → Nat → Int32) (t : Nat → Nat → Int64) : pP (HA fm X s t) = HC (trv fm) X (fun c => s (pT c)) (fun c => t (pT c)) := by
  have h := pP_HC (trv fm) X (fun c => s (pT c)) (fun c => t (pT c))
  rw [trv_trv, show (fun c => s (pT (pT c))) = s from funext fun c => by rw [pT_pT], show (fun c => t (pT (pT c))) = t from funext fun c => by rw [pT_pT]] at h
  rw [← h, pP_pP]

