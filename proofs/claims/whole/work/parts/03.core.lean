/-! The abstract machine. A place is a number that stands for an address (the map 'as'); a heap: the shape of each place (kind, length), its ints, its longs, its references (places); kinds: 0 int, 1 byte, 2 boolean, 3 long rows, 10 + k an object of class k. Places from 9000 on: 9000 WEIGHTS, 9001 the script. -/
abbrev ab_L : Type := List (Option Value)
abbrev ab_H : Type := List (Nat × Nat) × (Nat → Nat → Int32) × (Nat → Nat → Int64) × (Nat → Nat → Value) × Nat × (Nat → Int32)
abbrev ab_K : Type := ClassId × ClassId × ClassId × ClassId
def ab_tr (as : Nat → Nat) : Value → Value
  | .ref a => .ref (as a)
  | v => v
theorem ab_tr_int (as : Nat → Nat) (x : Int32) : ab_tr as (.int x) = .int x := rfl
theorem ab_tr_cat (as : Nat → Nat) (v : Value) : (ab_tr as v).category = v.category := by cases v <;> rfl
def ab_up {α : Type} (s : Nat → Nat → α) (c k : Nat) (v : α) : Nat → Nat → α := fun c' => if c' = c then (fun j => if j = k then v else s c j) else s c'
theorem ab_up_c {α : Type} (s : Nat → Nat → α) (c k : Nat) (v : α) : ab_up s c k v c = (fun j => if j = k then v else s c j) := if_pos rfl
theorem ab_up_o {α : Type} {s : Nat → Nat → α} {c k c' : Nat} {v : α} (h : c' ≠ c) : ab_up s c k v c' = s c' := if_neg h
theorem ab_up_s {α : Type} (s : Nat → Nat → α) (c k : Nat) (v : α) : ab_up s c k v c k = v := by rw [ab_up_c]; exact if_pos rfl
theorem ab_up_n {α : Type} {s : Nat → Nat → α} {c k j : Nat} {v : α} (h : j ≠ k) : ab_up s c k v c j = s c j := by rw [ab_up_c]; exact if_neg h
/-- a row of a place put as a whole -/
def ab_ro {α : Type} (s : Nat → Nat → α) (c : Nat) (f : Nat → α) : Nat → Nat → α := fun c' => if c' = c then f else s c'
theorem ab_ro_c {α : Type} (s : Nat → Nat → α) (c : Nat) (f : Nat → α) : ab_ro s c f c = f := if_pos rfl
theorem ab_ro_o {α : Type} {s : Nat → Nat → α} {c c' : Nat} {f : Nat → α} (h : c' ≠ c) : ab_ro s c f c' = s c' := if_neg h
def ab_ty (ci : Nat) : Nat → FieldType := match ci with
  | 0 => tyX0 | 1 => tyX1 | 2 => tyX2 | 3 => tyX3 | 4 => tyX4 | 5 => tyX5 | 6 => tyX6 | 7 => tyX7 | 8 => tyX8 | 9 => tyX9 | 10 => tyX10 | 11 => tyX11 | _ => tyX12
def ab_isI (ci j : Nat) : Bool := match ab_ty ci j with
  | .int => true
  | .boolean => true
  | _ => false
def ab_fv (as : Nat → Nat) (h : ab_H) (c ci j : Nat) : Value := if ab_isI ci j then .int (h.2.1 c j) else ab_tr as (h.2.2.2.1 c j)
def ab_cell (K : ab_K) (as : Nat → Nat) (h : ab_H) (c : Nat) : va_E := match h.1[c]? with
  | some (0, n) => .inl (K.1, n, .inl (h.2.1 c))
  | some (1, n) => .inl (K.2.1, n, .inl (h.2.1 c))
  | some (2, n) => .inl (K.2.2.1, n, .inl (h.2.1 c))
  | some (3, n) => .inl (K.2.2.2, n, .inr (.inl (h.2.2.1 c)))
  | some (k + 10, n) => .inr (k, (List.range n).map (ab_fv as h c k))
  | _ => .inr (0, [])
def ab_w (K : ab_K) (as : Nat → Nat) (h : ab_H) : va_W := (List.range h.1.length).map fun c => (as c, ab_cell K as h c)
theorem ab_w_get (K : ab_K) (as : Nat → Nat) (h : ab_H) {c : Nat} (hc : c < h.1.length) : (ab_w K as h)[c]? = some (as c, ab_cell K as h c) := by
  simp [ab_w, hc]
theorem ab_w_len (K : ab_K) (as : Nat → Nat) (h : ab_H) : (ab_w K as h).length = h.1.length := by simp [ab_w]
theorem ab_w_of {K : ab_K} {as : Nat → Nat} {h : ab_H} {c : Nat} {q : Nat × va_E} (hq : (ab_w K as h)[c]? = some q) : c < h.1.length ∧ q = (as c, ab_cell K as h c) := by
  have h1 : c < h.1.length := by rw [← ab_w_len K as h]; exact (List.getElem?_eq_some_iff.mp hq).1
  exact ⟨h1, Option.some.inj (hq.symm.trans (ab_w_get K as h h1))⟩
theorem ab_w_set (K : ab_K) (as : Nat → Nat) (h h' : ab_H) (c : Nat) (h1 : h'.1 = h.1) (h2 : ∀ c', c' ≠ c → ab_cell K as h' c' = ab_cell K as h c') : ab_w K as h' = (ab_w K as h).set c (as c, ab_cell K as h' c) := by
  apply List.ext_getElem?
  intro i
  rw [List.getElem?_set]
  by_cases hi : i < h.1.length
  · rw [ab_w_get K as h' (by rw [h1]; exact hi), ab_w_len]
    by_cases e : c = i
    · subst e
      rw [if_pos rfl, if_pos hi]
    · rw [if_neg e, ab_w_get K as h hi, h2 i (fun z => e z.symm)]
  · rw [List.getElem?_eq_none (by rw [ab_w_len, h1]; omega)]
    split
    · rw [if_neg (by rw [ab_w_len]; omega)]
    · rw [List.getElem?_eq_none (by rw [ab_w_len]; omega)]
/-! locals -/
def ab_LH (as : Nat → Nat) (ls : Array Slot) (L : ab_L) : Prop := ls.size = L.length ∧ lv_wf ls ∧ ∀ (i : Nat) (v : Value), L[i]? = some (some v) → ls[i]? = some (.val (ab_tr as v))
def ab_asc (as : Nat → Nat) (L : ab_L) : List (Nat × Value) := (List.range L.length).filterMap fun i => (L[i]?.join).map fun v => (i, ab_tr as v)
theorem ab_asc_mem {as : Nat → Nat} {L : ab_L} {q : Nat × Value} : q ∈ ab_asc as L ↔ ∃ v, L[q.1]? = some (some v) ∧ q.2 = ab_tr as v := by
  unfold ab_asc
  rw [List.mem_filterMap]
  constructor
  · rintro ⟨i, hi, hq⟩
    cases h : L[i]? with
    | none => rw [h] at hq; cases hq
    | some o =>
      cases o with
      | none => rw [h] at hq; cases hq
      | some v =>
        rw [h] at hq
        cases hq
        exact ⟨v, h, rfl⟩
  · rintro ⟨v, h1, h2⟩
    refine ⟨q.1, List.mem_range.mpr (List.getElem?_eq_some_iff.mp h1).1, ?_⟩
    rw [h1]
    show some (q.1, ab_tr as v) = some q
    rw [← h2]
theorem ab_LH.has {as : Nat → Nat} {ls : Array Slot} {L : ab_L} (h : ab_LH as ls L) : lv_has ls L.length (ab_asc as L) := ⟨h.1, h.2.1, fun q hq => by
  obtain ⟨v, h1, h2⟩ := ab_asc_mem.mp hq
  rw [h2]; exact h.2.2 _ _ h1⟩
def ab_kill (L : ab_L) (i : Nat) : ab_L := match i with
  | 0 => L
  | j + 1 => match L[j]? with
    | some (some v) => if v.category = 2 then L.set j none else L
    | _ => L
def ab_set1 (L : ab_L) (i : Nat) (v : Value) : ab_L := (ab_kill L i).set i (some v)
def ab_set2 (L : ab_L) (i : Nat) (v : Value) : ab_L := ((ab_kill L i).set i (some v)).set (i + 1) none
theorem ab_kill_len (L : ab_L) (i : Nat) : (ab_kill L i).length = L.length := by
  unfold ab_kill
  split
  · rfl
  · split
    · split
      · simp
      · rfl
    · rfl
theorem ab_kill_get {L : ab_L} {i j : Nat} {v : Value} (h : (ab_kill L i)[j]? = some (some v)) : L[j]? = some (some v) ∧ (j + 1 = i → ¬ v.category = 2) := by
  unfold ab_kill at h
  split at h
  · exact ⟨h, fun e => by omega⟩
  · rename_i k
    split at h
    · rename_i w hw
      split at h
      · rw [List.getElem?_set] at h
        split at h
        · split at h
          · cases h
          · cases h
        · rename_i hne
          exact ⟨h, fun e => absurd (by omega) hne⟩
      · rename_i hc
        refine ⟨h, fun e => ?_⟩
        have e2 : j = k := by omega
        subst e2
        rw [h] at hw
        cases hw
        exact hc
    · rename_i hn
      refine ⟨h, fun e => ?_⟩
      have e2 : j = k := by omega
      subst e2
      exact absurd h (hn v)
theorem ab_LH.st1 {as : Nat → Nat} {ls' : Array Slot} {L : ab_L} {i : Nat} {v w : Value} (hw : w = ab_tr as v) (hi : i < L.length) (h : lv_has ls' L.length ((i, w) :: (ab_asc as L).filter (fun q => !(q.1 == i) && !(q.1 + 1 == i && q.2.category == 2)))) : ab_LH as ls' (ab_set1 L i v) := by
  subst hw
  refine ⟨by rw [h.1]; simp [ab_set1, ab_kill_len], h.2.1, fun j u hj => ?_⟩
  unfold ab_set1 at hj
  rw [List.getElem?_set] at hj
  by_cases e : i = j
  · subst e
    rw [if_pos rfl, if_pos (by rw [ab_kill_len]; exact hi)] at hj
    cases hj
    exact h.2.2 (i, ab_tr as v) List.mem_cons_self
  · rw [if_neg e] at hj
    obtain ⟨h1, h2⟩ := ab_kill_get hj
    refine h.2.2 (j, ab_tr as u) (List.mem_cons_of_mem _ (List.mem_filter.mpr ⟨ab_asc_mem.mpr ⟨u, h1, rfl⟩, ?_⟩))
    simp only [ab_tr_cat, Bool.and_eq_true, Bool.not_eq_true', beq_eq_false_iff_ne, ne_eq, Bool.and_eq_false_imp, beq_iff_eq]
    exact ⟨fun z => e z.symm, fun z => h2 z⟩
theorem ab_LH.st2 {as : Nat → Nat} {ls' : Array Slot} {L : ab_L} {i : Nat} {v w : Value} (hw : w = ab_tr as v) (hi : i < L.length) (h : lv_has ls' L.length ((i, w) :: (ab_asc as L).filter (fun q => !(q.1 == i) && (!(q.1 == i + 1) && !(q.1 + 1 == i && q.2.category == 2))))) : ab_LH as ls' (ab_set2 L i v) := by
  subst hw
  refine ⟨by rw [h.1]; simp [ab_set2, ab_kill_len], h.2.1, fun j u hj => ?_⟩
  unfold ab_set2 at hj
  rw [List.getElem?_set] at hj
  by_cases e1 : i + 1 = j
  · subst e1
    rw [if_pos rfl] at hj
    split at hj <;> cases hj
  · rw [if_neg e1, List.getElem?_set] at hj
    by_cases e : i = j
    · subst e
      rw [if_pos rfl, if_pos (by rw [ab_kill_len]; exact hi)] at hj
      cases hj
      exact h.2.2 (i, ab_tr as v) List.mem_cons_self
    · rw [if_neg e] at hj
      obtain ⟨h1, h2⟩ := ab_kill_get hj
      refine h.2.2 (j, ab_tr as u) (List.mem_cons_of_mem _ (List.mem_filter.mpr ⟨ab_asc_mem.mpr ⟨u, h1, rfl⟩, ?_⟩))
      simp only [ab_tr_cat, Bool.and_eq_true, Bool.not_eq_true', beq_eq_false_iff_ne, ne_eq, Bool.and_eq_false_imp, beq_iff_eq]
      exact ⟨fun z => e z.symm, fun z => e1 z.symm, fun z => h2 z⟩
def ab_mask (k : List Bool) (L : ab_L) : ab_L := match k, L with
  | true :: k, o :: L => o :: ab_mask k L
  | false :: k, _ :: L => none :: ab_mask k L
  | _, L => L
theorem ab_mask_get : ∀ {k : List Bool} {L : ab_L} {i : Nat} {v : Value}, (ab_mask k L)[i]? = some (some v) → L[i]? = some (some v)
  | [], L, i, v, h => by unfold ab_mask at h; exact h
  | true :: k, [], i, v, h => by unfold ab_mask at h; exact h
  | false :: k, [], i, v, h => by unfold ab_mask at h; exact h
  | true :: k, o :: L, 0, v, h => by unfold ab_mask at h; exact h
  | true :: k, o :: L, i + 1, v, h => by
    unfold ab_mask at h
    rw [List.getElem?_cons_succ] at h ⊢
    exact ab_mask_get h
  | false :: k, o :: L, 0, v, h => by unfold ab_mask at h; simp at h
  | false :: k, o :: L, i + 1, v, h => by
    unfold ab_mask at h
    rw [List.getElem?_cons_succ] at h ⊢
    exact ab_mask_get h
theorem ab_mask_len : ∀ (k : List Bool) (L : ab_L), (ab_mask k L).length = L.length
  | [], L => by unfold ab_mask; rfl
  | true :: k, [] => by unfold ab_mask; rfl
  | false :: k, [] => by unfold ab_mask; rfl
  | true :: k, o :: L => by unfold ab_mask; simp [ab_mask_len k L]
  | false :: k, o :: L => by unfold ab_mask; simp [ab_mask_len k L]
theorem ab_LH.mask {as : Nat → Nat} {ls : Array Slot} {L : ab_L} (k : List Bool) (h : ab_LH as ls L) : ab_LH as ls (ab_mask k L) := ⟨by rw [ab_mask_len]; exact h.1, h.2.1, fun i v hi => h.2.2 i v (ab_mask_get hi)⟩
def ab_ent : List Value → ab_L
  | [] => []
  | v :: r => if v.category = 2 then some v :: none :: ab_ent r else some v :: ab_ent r
def ab_entry (n : Nat) (vs : List Value) : ab_L := ab_ent vs ++ List.replicate (n - (ab_ent vs).length) none
theorem ab_ent_len (as : Nat → Nat) : ∀ vs : List Value, (lg_sl (vs.map (ab_tr as))).length = (ab_ent vs).length
  | [] => rfl
  | v :: r => by
    have ih := ab_ent_len as r
    unfold ab_ent
    simp only [lg_sl, List.map_cons, List.flatMap_cons, List.length_append, ab_tr_cat] at ih ⊢
    split
    · simp [ih]; omega
    · simp [ih]; omega
theorem ab_ent_in (as : Nat → Nat) : ∀ (vs : List Value) (j i : Nat) (v : Value), (ab_ent vs)[i]? = some (some v) → (j + i, ab_tr as v) ∈ lv_args j (vs.map (ab_tr as))
  | [], j, i, v, h => by unfold ab_ent at h; simp at h
  | w :: r, j, i, v, h => by
    unfold ab_ent at h
    rw [List.map_cons, lv_args, ab_tr_cat]
    split at h
    · rename_i hc
      rw [if_pos hc]
      match i, h with
      | 0, h =>
        simp at h
        subst h
        exact List.mem_cons_self
      | 1, h => simp at h
      | i + 2, h =>
        rw [List.getElem?_cons_succ, List.getElem?_cons_succ] at h
        have := ab_ent_in as r (j + 2) i v h
        rw [show j + (i + 2) = j + 2 + i by omega]
        exact List.mem_cons_of_mem _ this
    · rename_i hc
      rw [if_neg hc]
      match i, h with
      | 0, h =>
        simp at h
        subst h
        exact List.mem_cons_self
      | i + 1, h =>
        rw [List.getElem?_cons_succ] at h
        have := ab_ent_in as r (j + 1) i v h
        rw [show j + (i + 1) = j + 1 + i by omega]
        exact List.mem_cons_of_mem _ this
theorem ab_LH.entry (as : Nat → Nat) (vs : List Value) {n : Nat} (hn : (ab_ent vs).length ≤ n) : ab_LH as ((lg_sl (vs.map (ab_tr as)) ++ List.replicate (n - (lg_sl (vs.map (ab_tr as))).length) Slot.unset).toArray) (ab_entry n vs) := by
  have h := lv_entry (vs.map (ab_tr as)) (n := n) (by rw [ab_ent_len]; exact hn)
  refine ⟨by rw [h.1]; simp [ab_entry]; omega, h.2.1, fun i v hi => ?_⟩
  unfold ab_entry at hi
  by_cases hl : i < (ab_ent vs).length
  · rw [List.getElem?_append_left hl] at hi
    have := ab_ent_in as vs 0 i v hi
    rw [Nat.zero_add] at this
    exact h.2.2 _ this
  · rw [List.getElem?_append_right (by omega)] at hi
    have := List.eq_of_mem_replicate (List.mem_of_getElem? hi)
    cases this
theorem ab_entry_len {vs : List Value} {n : Nat} (hn : (ab_ent vs).length ≤ n) : (ab_entry n vs).length = n := by simp [ab_entry]; omega
