theorem ab_w_push {K : ab_K} {as as' : Nat → Nat} {h h' : ab_H} {x : Nat × Nat} (h1 : h'.1 = h.1 ++ [x]) (ha : ∀ c, c < h.1.length → as' c = as c) (hc : ∀ c, c < h.1.length → ab_cell K as' h' c = ab_cell K as h c) : ab_w K as' h' = ab_w K as h ++ [(as' h.1.length, ab_cell K as' h' h.1.length)] := by
  unfold ab_w
  rw [h1, List.length_append, List.length_singleton, List.range_succ, List.map_append]
  congr 1
  apply List.map_congr_left
  intro c hc9
  have := List.mem_range.mp hc9
  rw [ha c this, hc c this]
theorem ab_tr_up {as : Nat → Nat} {n q : Nat} (hn : n < 9000) {v : Value} (hv : ab_vok n v) : ab_tr (va_up as n q) v = ab_tr as v := by
  cases v <;> first | rfl | skip
  rename_i a
  show Value.ref (va_up as n q a) = Value.ref (as a)
  have : a ≠ n := by
    rcases hv with h | h
    · exact Nat.ne_of_lt h
    · exact fun z => absurd h (by rw [z]; exact Nat.not_le_of_lt hn)
  rw [show va_up as n q a = as a from if_neg this]
theorem ab_LH.up {as : Nat → Nat} {n q : Nat} {ls : Array Slot} {L : ab_L} (hn : n < 9000) (hv : ∀ v, some v ∈ L → ab_vok n v) (h : ab_LH as ls L) : ab_LH (va_up as n q) ls L := ⟨h.1, h.2.1, fun i v hi => by rw [ab_tr_up hn (hv v (List.mem_of_getElem? hi))]; exact h.2.2 i v hi⟩
theorem ab_st_up {as : Nat → Nat} {n q : Nat} {st : List Value} (hn : n < 9000) (hv : ∀ v ∈ st, ab_vok n v) : st.map (ab_tr (va_up as n q)) = st.map (ab_tr as) := List.map_congr_left fun v h => ab_tr_up hn (hv v h)
theorem ab_Ag.up {mc n0 n q : Nat} {as0 as : Nat → Nat} (h : ab_Ag mc n0 as0 as) (h0 : n0 ≤ n) (hn : n < 9000) (hm : mc ≠ 0) : ab_Ag mc n0 as0 (va_up as n q) := by
  intro c hc
  have : c ≠ n := by rcases hc with h | h | h <;> omega
  rw [show va_up as n q c = as c from if_neg this]
  exact h c hc
/-- the heap with one more place -/
def ab_grow (h : ab_H) (x : Nat × Nat) : ab_H := match h with
  | (sh, sg, ta, ro, xx) => (sh ++ [x], ab_ro sg sh.length (fun _ => 0), ab_ro ta sh.length (fun _ => 0), ab_ro ro sh.length (fun _ => .null), xx)
theorem ab_grow_cell {K : ab_K} {as : Nat → Nat} {h : ab_H} {x : Nat × Nat} {q : Nat} {fm : Value} {X : Nat × (Nat → Int32)} (hwf : ab_wf h fm X) (hn : h.1.length < 9000) {c : Nat} (hc : c < h.1.length) : ab_cell K (va_up as h.1.length q) (ab_grow h x) c = ab_cell K as h c := by
  obtain ⟨sh, sg, ta, ro, xx⟩ := h
  dsimp only at hn hc
  refine ab_cell_cg (List.getElem?_append_left hc) (ab_ro_o (by omega)) (ab_ro_o (by omega)) (fun k => ?_)
  show ab_tr _ (ab_ro ro sh.length _ c k) = _
  rw [ab_ro_o (by omega)]
  exact ab_tr_up hn (hwf.1 c k)
theorem ab_grow_wf {h : ab_H} {x : Nat × Nat} {fm : Value} {X : Nat × (Nat → Int32)} (hwf : ab_wf h fm X) (hn : h.1.length < 9000) : ab_wf (ab_grow h x) fm X := by
  obtain ⟨sh, sg, ta, ro, xx⟩ := h
  dsimp only at hn
  obtain ⟨w1, w2, w3, w4, w5⟩ := hwf
  refine ⟨fun c k => ?_, ?_, ?_, w4, w5⟩
  · show ab_vok (sh ++ [x]).length (ab_ro ro sh.length _ c k)
    unfold ab_ro
    split
    · trivial
    · exact ab_vok_le (by simp) (w1 c k)
  · show (sh ++ [x]).length ≤ 9000
    simp; omega
  · show ab_ro ro sh.length _ 9006 0 = fm
    rw [ab_ro_o (by omega)]
    exact w3
/-- what the entry of a new object must say -/
def ab_Nb (own : String) (by_ : ByteArray) (pc ci N : Nat) : Prop := ∃ (C : String) (T : u_T) (ix : Nat), decode by_ pc = .ok (.new ix, 3) ∧ vwCl[ci]? = some (C, T, N) ∧ (∀ w ∈ u_ws C T N, w ∈ ab_good) ∧ (∀ k, k < N → parseFieldDescriptor (T k).2.2.1 = some (ab_ty ci k)) ∧ (∀ k, k < N → defaultValue (ab_ty ci k) = if ab_isI ci k then .int 0 else .null) ∧ Cond.classLink own ix C ∈ ab_good ∧ Cond.instantiable C N ∈ ab_good ∧ Cond.initialized C ∈ ab_good
set_option maxHeartbeats 1000000 in
theorem ab_new {M : ab_M} {d : Nat} {b : Nat × Nat} {Po : Option Value → ab_H → Prop} {i : Nat} {L : ab_L} {st : List Value} {h : ab_H} {ci N nx : Nat} (hw : ab_Nb (ab_y M).cls (ab_by M) (ab_pc M i) ci N) (hp : ab_pc M nx = ab_pc M i + 3) (hlt : h.1.length < 9000) (hvL : ∀ v, some v ∈ L → ab_vok h.1.length v) (hvs : ∀ v ∈ st, ab_vok h.1.length v)
    (k : ab_Z M d b Po nx L (.ref h.1.length :: st) (ab_grow h (ci + 10, N))) : ab_Z M d (b.1 + 1, b.2 + N) Po i L st h := by
  intro p l e R s m args below meth c A D K as0 n0 mc ms fm X F as ls H locs cells slots Y hL hn hc hs
  have F' := F
  obtain ⟨fx, fb, fml, fown, fts, fN, fret, flk, fnm, fK, fA, fSt, fR⟩ := F
  obtain ⟨hP, hD, hS, hwf, hn0, hAg⟩ := Y
  dsimp only at hc hs
  obtain ⟨C, T, ix, hd, w1, w2, w3, w4, w5, w6, w7⟩ := hw
  refine va_new (ci := ci) (fs := (List.range N).map (fun j => if ab_isI ci j then .int 0 else .null)) (C := C) (T := T) (N := N) fx fb fts w2 (ab_ty ci) w3 fown (fts _ w5) (fts _ w6) (fts _ w7) fK hP hD hS fA w1 (fun j hj => by rw [w4 j hj]; simp [vp_V, hj]) (by rw [fR]; simp only [ab_rm]; omega) (by rw [fR]; simp only [ab_rm]; omega) hd (fun q H1 hP1 hD1 hS1 => ?_)
  have hcell : ab_cell K (va_up as h.1.length q) (ab_grow h (ci + 10, N)) h.1.length = .inr (ci, (List.range N).map (fun j => if ab_isI ci j then .int 0 else .null)) := by
    obtain ⟨sh, sg, ta, ro, xx⟩ := h
    rw [ab_cell_o (ci := ci) (n := N) (by show (sh ++ [(ci + 10, N)])[sh.length]? = _; simp)]
    congr 2
    apply List.map_congr_left
    intro j _
    unfold ab_fv ab_grow
    dsimp only
    rw [ab_ro_c, ab_ro_c]
    rfl
  have hpush := ab_w_push (K := K) (as := as) (as' := va_up as h.1.length q) (h := h) (h' := ab_grow h (ci + 10, N)) (x := (ci + 10, N)) rfl (fun c hc => if_neg (by omega)) (fun c hc => ab_grow_cell hwf hlt hc)
  rw [hcell, show va_up as h.1.length q h.1.length = q from if_pos rfl] at hpush
  rw [← hpush] at hP1 hD1
  have k' := k p l e R s m args below meth c A D K as0 n0 mc ms fm X F' (va_up as h.1.length q) ls H1 locs (cells + 1) (slots + N) ⟨hP1, hD1, hS1, ab_grow_wf hwf hlt, Nat.le_trans hn0 (by show h.1.length ≤ (h.1 ++ [_]).length; simp), hAg.up hn0 hlt (by omega)⟩ (hL.up hlt hvL) hn (by omega) (by omega)
  rw [hp, List.map_cons, ab_st_up hlt hvs] at k'
  rw [show ab_tr (va_up as h.1.length q) (.ref h.1.length) = .ref q by show Value.ref (va_up as _ q _) = _; rw [show va_up as h.1.length q h.1.length = q from if_pos rfl]] at k'
  exact k'
set_option maxHeartbeats 1000000 in
theorem ab_newa0 {M : ab_M} {d : Nat} {b : Nat × Nat} {Po : Option Value → ab_H → Prop} {i : Nat} {L : ab_L} {st : List Value} {h : ab_H} {n : Int32} {N nx : Nat} (hd : decode (ab_by M) (ab_pc M i) = .ok (.newarray .int, 2)) (hw : Cond.arrayClass .int ∈ ab_good) (hp : ab_pc M nx = ab_pc M i + 2) (hn0 : ¬ n < 0) (hN : n.toNatClampNeg = N) (hsz : N * 8 ≤ 536870912) (hlt : h.1.length < 9000) (hvL : ∀ v, some v ∈ L → ab_vok h.1.length v) (hvs : ∀ v ∈ st, ab_vok h.1.length v)
    (k : ab_Z M d b Po nx L (.ref h.1.length :: st) (ab_grow h (0, N))) : ab_Z M d (b.1 + 1, b.2 + N) Po i L (.int n :: st) h := by
  intro p l e R s m args below meth c A D K as0 n0 mc ms fm X F as ls H locs cells slots Y hL hn hc hs
  have F' := F
  obtain ⟨fx, fb, fml, fown, fts, fN, fret, flk, fnm, fK, fA, fSt, fR⟩ := F
  obtain ⟨hP, hD, hS, hwf, hn9, hAg⟩ := Y
  dsimp only at hc hs
  refine va_newa (atype := .int) (ty := .int) (N' := N) (a0 := (N, .inl (fun _ => 0))) fx fb (fts _ hw) rfl fK hP hD hS fA (fun cA => rfl) hn0 hN (by show N * _ ≤ _; simp only [componentBytes]; omega) (by rw [fR]; simp only [ab_rm]; omega) (by rw [fR]; simp only [ab_rm]; omega) hd (fun q cA H1 hK1 hP1 hD1 hS1 => ?_)
  have eA : cA = K.1 := by
    have h1 := (hK1.2 4 (cA, .int) rfl).2
    have h2 := (fK.2 0 (K.1, .int) rfl).2
    exact Option.some.inj (h1.symm.trans h2)
  subst eA
  have hcell : ab_cell K (va_up as h.1.length q) (ab_grow h (0, N)) h.1.length = .inl (K.1, N, .inl (fun _ => 0)) := by
    obtain ⟨sh, sg, ta, ro, xx⟩ := h
    rw [ab_cell_0 (n := N) (by show (sh ++ [(0, N)])[sh.length]? = _; simp)]
    dsimp only [ab_grow]
    rw [ab_ro_c]
  have hpush := ab_w_push (K := K) (as := as) (as' := va_up as h.1.length q) (h := h) (h' := ab_grow h (0, N)) (x := (0, N)) rfl (fun c hc => if_neg (by omega)) (fun c hc => ab_grow_cell hwf hlt hc)
  rw [hcell, show va_up as h.1.length q h.1.length = q from if_pos rfl] at hpush
  rw [← hpush] at hP1 hD1
  have k' := k p l e R s m args below meth c A D K as0 n0 mc ms fm X F' (va_up as h.1.length q) ls H1 locs (cells + 1) (slots + N) ⟨hP1, hD1, hS1, ab_grow_wf hwf hlt, Nat.le_trans hn9 (by show h.1.length ≤ (h.1 ++ [_]).length; simp), hAg.up hn9 hlt (by omega)⟩ (hL.up hlt hvL) hn (by omega) (by omega)
  rw [hp, List.map_cons, ab_st_up hlt hvs] at k'
  rw [show ab_tr (va_up as h.1.length q) (.ref h.1.length) = .ref q by show Value.ref (va_up as _ q _) = _; rw [show va_up as h.1.length q h.1.length = q from if_pos rfl]] at k'
  exact k'
set_option maxHeartbeats 1000000 in
theorem ab_newa1 {M : ab_M} {d : Nat} {b : Nat × Nat} {Po : Option Value → ab_H → Prop} {i : Nat} {L : ab_L} {st : List Value} {h : ab_H} {n : Int32} {N nx : Nat} (hd : decode (ab_by M) (ab_pc M i) = .ok (.newarray .byte, 2)) (hw : Cond.arrayClass .byte ∈ ab_good) (hp : ab_pc M nx = ab_pc M i + 2) (hn0 : ¬ n < 0) (hN : n.toNatClampNeg = N) (hsz : N * 8 ≤ 536870912) (hlt : h.1.length < 9000) (hvL : ∀ v, some v ∈ L → ab_vok h.1.length v) (hvs : ∀ v ∈ st, ab_vok h.1.length v)
    (k : ab_Z M d b Po nx L (.ref h.1.length :: st) (ab_grow h (1, N))) : ab_Z M d (b.1 + 1, b.2 + N) Po i L (.int n :: st) h := by
  intro p l e R s m args below meth c A D K as0 n0 mc ms fm X F as ls H locs cells slots Y hL hn hc hs
  have F' := F
  obtain ⟨fx, fb, fml, fown, fts, fN, fret, flk, fnm, fK, fA, fSt, fR⟩ := F
  obtain ⟨hP, hD, hS, hwf, hn9, hAg⟩ := Y
  dsimp only at hc hs
  refine va_newa (atype := .byte) (ty := .byte) (N' := N) (a0 := (N, .inl (fun _ => 0))) fx fb (fts _ hw) rfl fK hP hD hS fA (fun cA => rfl) hn0 hN (by show N * _ ≤ _; simp only [componentBytes]; omega) (by rw [fR]; simp only [ab_rm]; omega) (by rw [fR]; simp only [ab_rm]; omega) hd (fun q cA H1 hK1 hP1 hD1 hS1 => ?_)
  have eA : cA = K.2.1 := by
    have h1 := (hK1.2 4 (cA, .byte) rfl).2
    have h2 := (fK.2 1 (K.2.1, .byte) rfl).2
    exact Option.some.inj (h1.symm.trans h2)
  subst eA
  have hcell : ab_cell K (va_up as h.1.length q) (ab_grow h (1, N)) h.1.length = .inl (K.2.1, N, .inl (fun _ => 0)) := by
    obtain ⟨sh, sg, ta, ro, xx⟩ := h
    rw [ab_cell_1 (n := N) (by show (sh ++ [(1, N)])[sh.length]? = _; simp)]
    dsimp only [ab_grow]
    rw [ab_ro_c]
  have hpush := ab_w_push (K := K) (as := as) (as' := va_up as h.1.length q) (h := h) (h' := ab_grow h (1, N)) (x := (1, N)) rfl (fun c hc => if_neg (by omega)) (fun c hc => ab_grow_cell hwf hlt hc)
  rw [hcell, show va_up as h.1.length q h.1.length = q from if_pos rfl] at hpush
  rw [← hpush] at hP1 hD1
  have k' := k p l e R s m args below meth c A D K as0 n0 mc ms fm X F' (va_up as h.1.length q) ls H1 locs (cells + 1) (slots + N) ⟨hP1, hD1, hS1, ab_grow_wf hwf hlt, Nat.le_trans hn9 (by show h.1.length ≤ (h.1 ++ [_]).length; simp), hAg.up hn9 hlt (by omega)⟩ (hL.up hlt hvL) hn (by omega) (by omega)
  rw [hp, List.map_cons, ab_st_up hlt hvs] at k'
  rw [show ab_tr (va_up as h.1.length q) (.ref h.1.length) = .ref q by show Value.ref (va_up as _ q _) = _; rw [show va_up as h.1.length q h.1.length = q from if_pos rfl]] at k'
  exact k'
set_option maxHeartbeats 1000000 in
theorem ab_newa2 {M : ab_M} {d : Nat} {b : Nat × Nat} {Po : Option Value → ab_H → Prop} {i : Nat} {L : ab_L} {st : List Value} {h : ab_H} {n : Int32} {N nx : Nat} (hd : decode (ab_by M) (ab_pc M i) = .ok (.newarray .boolean, 2)) (hw : Cond.arrayClass .boolean ∈ ab_good) (hp : ab_pc M nx = ab_pc M i + 2) (hn0 : ¬ n < 0) (hN : n.toNatClampNeg = N) (hsz : N * 8 ≤ 536870912) (hlt : h.1.length < 9000) (hvL : ∀ v, some v ∈ L → ab_vok h.1.length v) (hvs : ∀ v ∈ st, ab_vok h.1.length v)
    (k : ab_Z M d b Po nx L (.ref h.1.length :: st) (ab_grow h (2, N))) : ab_Z M d (b.1 + 1, b.2 + N) Po i L (.int n :: st) h := by
  intro p l e R s m args below meth c A D K as0 n0 mc ms fm X F as ls H locs cells slots Y hL hn hc hs
  have F' := F
  obtain ⟨fx, fb, fml, fown, fts, fN, fret, flk, fnm, fK, fA, fSt, fR⟩ := F
  obtain ⟨hP, hD, hS, hwf, hn9, hAg⟩ := Y
  dsimp only at hc hs
  refine va_newa (atype := .boolean) (ty := .boolean) (N' := N) (a0 := (N, .inl (fun _ => 0))) fx fb (fts _ hw) rfl fK hP hD hS fA (fun cA => rfl) hn0 hN (by show N * _ ≤ _; simp only [componentBytes]; omega) (by rw [fR]; simp only [ab_rm]; omega) (by rw [fR]; simp only [ab_rm]; omega) hd (fun q cA H1 hK1 hP1 hD1 hS1 => ?_)
  have eA : cA = K.2.2.1 := by
    have h1 := (hK1.2 4 (cA, .boolean) rfl).2
    have h2 := (fK.2 2 (K.2.2.1, .boolean) rfl).2
    exact Option.some.inj (h1.symm.trans h2)
  subst eA
  have hcell : ab_cell K (va_up as h.1.length q) (ab_grow h (2, N)) h.1.length = .inl (K.2.2.1, N, .inl (fun _ => 0)) := by
    obtain ⟨sh, sg, ta, ro, xx⟩ := h
    rw [ab_cell_2 (n := N) (by show (sh ++ [(2, N)])[sh.length]? = _; simp)]
    dsimp only [ab_grow]
    rw [ab_ro_c]
  have hpush := ab_w_push (K := K) (as := as) (as' := va_up as h.1.length q) (h := h) (h' := ab_grow h (2, N)) (x := (2, N)) rfl (fun c hc => if_neg (by omega)) (fun c hc => ab_grow_cell hwf hlt hc)
  rw [hcell, show va_up as h.1.length q h.1.length = q from if_pos rfl] at hpush
  rw [← hpush] at hP1 hD1
  have k' := k p l e R s m args below meth c A D K as0 n0 mc ms fm X F' (va_up as h.1.length q) ls H1 locs (cells + 1) (slots + N) ⟨hP1, hD1, hS1, ab_grow_wf hwf hlt, Nat.le_trans hn9 (by show h.1.length ≤ (h.1 ++ [_]).length; simp), hAg.up hn9 hlt (by omega)⟩ (hL.up hlt hvL) hn (by omega) (by omega)
  rw [hp, List.map_cons, ab_st_up hlt hvs] at k'
  rw [show ab_tr (va_up as h.1.length q) (.ref h.1.length) = .ref q by show Value.ref (va_up as _ q _) = _; rw [show va_up as h.1.length q h.1.length = q from if_pos rfl]] at k'
  exact k'
set_option maxHeartbeats 1000000 in
theorem ab_newa3 {M : ab_M} {d : Nat} {b : Nat × Nat} {Po : Option Value → ab_H → Prop} {i : Nat} {L : ab_L} {st : List Value} {h : ab_H} {n : Int32} {N nx : Nat} (hd : decode (ab_by M) (ab_pc M i) = .ok (.newarray .long, 2)) (hw : Cond.arrayClass .long ∈ ab_good) (hp : ab_pc M nx = ab_pc M i + 2) (hn0 : ¬ n < 0) (hN : n.toNatClampNeg = N) (hsz : N * 8 ≤ 536870912) (hlt : h.1.length < 9000) (hvL : ∀ v, some v ∈ L → ab_vok h.1.length v) (hvs : ∀ v ∈ st, ab_vok h.1.length v)
    (k : ab_Z M d b Po nx L (.ref h.1.length :: st) (ab_grow h (3, N))) : ab_Z M d (b.1 + 1, b.2 + N) Po i L (.int n :: st) h := by
  intro p l e R s m args below meth c A D K as0 n0 mc ms fm X F as ls H locs cells slots Y hL hn hc hs
  have F' := F
  obtain ⟨fx, fb, fml, fown, fts, fN, fret, flk, fnm, fK, fA, fSt, fR⟩ := F
  obtain ⟨hP, hD, hS, hwf, hn9, hAg⟩ := Y
  dsimp only at hc hs
  refine va_newa (atype := .long) (ty := .long) (N' := N) (a0 := (N, .inr (.inl (fun _ => 0)))) fx fb (fts _ hw) rfl fK hP hD hS fA (fun cA => rfl) hn0 hN (by show N * _ ≤ _; simp only [componentBytes]; omega) (by rw [fR]; simp only [ab_rm]; omega) (by rw [fR]; simp only [ab_rm]; omega) hd (fun q cA H1 hK1 hP1 hD1 hS1 => ?_)
  have eA : cA = K.2.2.2 := by
    have h1 := (hK1.2 4 (cA, .long) rfl).2
    have h2 := (fK.2 3 (K.2.2.2, .long) rfl).2
    exact Option.some.inj (h1.symm.trans h2)
  subst eA
  have hcell : ab_cell K (va_up as h.1.length q) (ab_grow h (3, N)) h.1.length = .inl (K.2.2.2, N, .inr (.inl (fun _ => 0))) := by
    obtain ⟨sh, sg, ta, ro, xx⟩ := h
    rw [ab_cell_3 (n := N) (by show (sh ++ [(3, N)])[sh.length]? = _; simp)]
    dsimp only [ab_grow]
    rw [ab_ro_c]
  have hpush := ab_w_push (K := K) (as := as) (as' := va_up as h.1.length q) (h := h) (h' := ab_grow h (3, N)) (x := (3, N)) rfl (fun c hc => if_neg (by omega)) (fun c hc => ab_grow_cell hwf hlt hc)
  rw [hcell, show va_up as h.1.length q h.1.length = q from if_pos rfl] at hpush
  rw [← hpush] at hP1 hD1
  have k' := k p l e R s m args below meth c A D K as0 n0 mc ms fm X F' (va_up as h.1.length q) ls H1 locs (cells + 1) (slots + N) ⟨hP1, hD1, hS1, ab_grow_wf hwf hlt, Nat.le_trans hn9 (by show h.1.length ≤ (h.1 ++ [_]).length; simp), hAg.up hn9 hlt (by omega)⟩ (hL.up hlt hvL) hn (by omega) (by omega)
  rw [hp, List.map_cons, ab_st_up hlt hvs] at k'
  rw [show ab_tr (va_up as h.1.length q) (.ref h.1.length) = .ref q by show Value.ref (va_up as _ q _) = _; rw [show va_up as h.1.length q h.1.length = q from if_pos rfl]] at k'
  exact k'
def ab_sum (r : List Value) : Nat := (r.map fun v => v.category).sum
def aOI (nx : Nat) : ab_F := fun L st h => match st with
  | .ref _ :: r => bif Nat.ble (ab_sum r) 8 then some (nx, L, r, h) else none
  | _ => none
theorem ab_sum_tr (as : Nat → Nat) (r : List Value) : ((r.map (ab_tr as)).map fun v => v.category).sum = ab_sum r := by
  unfold ab_sum
  rw [List.map_map, show ((fun v : Value => v.category) ∘ ab_tr as) = fun v => v.category from funext fun v => ab_tr_cat as v]
theorem s_objInit {M : ab_M} {i nx ix : Nat} (hd : decode (ab_by M) (ab_pc M i) = .ok (.invokespecial ix, 3)) (w1 : Cond.methodLink (ab_y M).cls ix Lib.objectInit ∈ ab_good) (w2 : Cond.instanceMethod Lib.objectInit ∈ ab_good) (w3 : Cond.code Lib.objectInit ⟨#[0xb1]⟩ 1 none ∈ ab_good) (hp : ab_pc M nx = ab_pc M i + 3) : ab_S M i (aOI nx) := by
  intro d b Po L st h i' L' st' h' hf kk p l e R s m args below meth c A D K as0 n0 mc ms fm X F as ls H locs cells slots Y hL hn hc hs
  unfold aOI at hf
  split at hf
  case h_2 => cases hf
  rename_i a r
  rw [cond_eq_ite] at hf
  split at hf
  case isFalse => cases hf
  rename_i hb
  cases hf
  have k' := kk p l e R s m args below meth c A D K as0 n0 mc ms fm X F as ls H locs cells slots Y hL hn hc hs
  rw [hp] at k'
  obtain ⟨fx, fb, fml, fown, fts, fN, fret, flk, fnm, fK, fA, fSt, fR⟩ := F
  have hb := Nat.le_of_ble_eq_true hb
  have hm : ∀ (st : List Value), (F0 m (ab_pc M i) ls st).monitorRoom = 0 := fun st => by
    have := lv_room (m := m) (pc := ab_pc M i) (ls := ls) (rest := st) (st := [.long 0, .long 0, .long 0, .long 0]) (by decide)
    have h8 : (([.long 0, .long 0, .long 0, .long 0] : List Value).map fun v => v.category).sum = 8 := rfl
    omega
  refine W.objInit fx fb fown (fts _ w1) (fts _ w2) (fts _ w3) rfl (by rw [fml]; show ls.size = _; rw [hL.1, hn]) rfl hd (by rw [fR]; simp only [ab_rm]; omega) (by rw [hm, ab_sum_tr, fR]; simp only [ab_rm]; omega) ?_
  exact k'
def aCp (nx : Nat) : ab_F := fun L st h => match st with
  | .int n :: .int dp :: .ref a1 :: .int sp :: .ref a0 :: r => match h with
    | (sh, sg, rr) => match sh[a0]?, sh[a1]? with
      | some (0, n0), some (0, n1) => bif Nat.ble (ab_sum r) 8 then (if 0 ≤ sp.toInt ∧ 0 ≤ dp.toInt ∧ 0 ≤ n.toInt ∧ sp.toInt + n.toInt ≤ (n0 : Int) ∧ dp.toInt + n.toInt ≤ (n1 : Int) then some (nx, L, r, (sh, ab_ro sg a1 (va_cpy (sg a0) (sg a1) sp.toNatClampNeg dp.toNatClampNeg n.toNatClampNeg), rr)) else none) else none
      | _, _ => none
  | _ => none
theorem ab_nn {z : Int32} (h : 0 ≤ z.toInt) : ¬ z < 0 ∧ z.toInt = (z.toNatClampNeg : Int) := by
  constructor
  · rw [Int32.lt_iff_toInt_lt]; simp; exact h
  · exact (Int.toNat_of_nonneg h).symm
set_option maxHeartbeats 1000000 in
theorem s_copy {M : ab_M} {i nx ix : Nat} (hd : decode (ab_by M) (ab_pc M i) = .ok (.invokestatic ix, 3)) (w1 : Cond.methodLink (ab_y M).cls ix arraycopyName ∈ ab_good) (w2 : Cond.native arraycopyName ∈ ab_good) (w3 : Cond.static arraycopyName ∈ ab_good) (w4 : Cond.initialized "java/lang/System" ∈ ab_good) (hp : ab_pc M nx = ab_pc M i + 3) : ab_S M i (aCp nx) := by
  intro d b Po L st h i' L' st' h' hf kk p l e R s m args below meth c A D K as0 n0 mc ms fm X F as ls H locs cells slots Y hL hn hc hs
  unfold aCp at hf
  split at hf
  case h_2 => cases hf
  rename_i n dp a1 sp a0 r
  obtain ⟨sh, sg, ta, ro, xx⟩ := h
  dsimp only at hf
  split at hf
  case h_2 => cases hf
  rename_i m0 m1 hq0 hq1
  rw [cond_eq_ite] at hf
  split at hf
  case isFalse => cases hf
  rename_i hb
  split at hf
  case isFalse => cases hf
  rename_i hin
  cases hf
  have F' := F
  obtain ⟨fx, fb, fml, fown, fts, fN, fret, flk, fnm, fK, fA, fSt, fR⟩ := F
  have hb := Nat.le_of_ble_eq_true hb
  have he0 := ab_w_get K as (sh, sg, ta, ro, xx) (List.getElem?_eq_some_iff.mp hq0).1
  rw [ab_cell_0 hq0] at he0
  have he1 := ab_w_get K as (sh, sg, ta, ro, xx) (List.getElem?_eq_some_iff.mp hq1).1
  rw [ab_cell_0 hq1] at he1
  obtain ⟨i1, i2, i3, i4, i5⟩ := hin
  obtain ⟨j1, g1⟩ := ab_nn i1
  obtain ⟨j2, g2⟩ := ab_nn i2
  obtain ⟨j3, g3⟩ := ab_nn i3
  have hset := ab_w_set K as (sh, sg, ta, ro, xx) (sh, ab_ro sg a1 (va_cpy (sg a0) (sg a1) sp.toNatClampNeg dp.toNatClampNeg n.toNatClampNeg), ta, ro, xx) a1 rfl (fun c' hc' => ab_cell_cg rfl (by show ab_ro sg a1 _ c' = sg c'; exact ab_ro_o hc') rfl (fun _ => rfl))
  rw [ab_cell_0 (h := (sh, ab_ro sg a1 (va_cpy (sg a0) (sg a1) sp.toNatClampNeg dp.toNatClampNeg n.toNatClampNeg), ta, ro, xx)) hq1] at hset
  refine va_copyi (ty := .int) fx fb (by rw [fml, hL.1, hn]) fown (fts _ w1) (fts _ w2) (fts _ w3) (fts _ w4) fK Y.1 Y.2.1 Y.2.2.1 a0 a1 0 0 he0 he1 rfl rfl rfl j1 j2 j3 (by omega) (by omega) (fun _ _ => rfl) (by rw [fR]; simp only [ab_rm]; omega) (by rw [ab_sum_tr, fR]; simp only [ab_rm]; rw [show nativeFrameWords "java/lang/System" "arraycopy" 5 = 7 by decide]; omega) hd fun H1 locs1 hP1 hD1 hS1 => ?_
  have k' := kk p l e R s m args below meth c A D K as0 n0 mc ms fm X F' as ls H1 locs1 cells slots ⟨by rw [hset]; dsimp only; rw [ab_ro_c]; exact hP1, by rw [hset]; dsimp only; rw [ab_ro_c]; exact hD1, hS1, Y.2.2.2⟩ hL hn hc hs
  rw [hp] at k'
  exact k'
def aSF (nx : Nat) : ab_F := fun L st h => match h with
  | (sh, sg, ta, ro, xx) => some (nx, L, ro 9006 0 :: st, (sh, sg, ta, ro, xx))
theorem s_getSF {M : ab_M} {i nx ix : Nat} (hd : decode (ab_by M) (ab_pc M i) = .ok (.getstatic ix, 3)) (hw : Cond.fieldLink (ab_y M).cls ix "jdk/internal/util/Preconditions" "SIOOBE_FORMATTER" "Ljava/util/function/BiFunction;" ∈ ab_good) (hp : ab_pc M nx = ab_pc M i + 3) : ab_S M i (aSF nx) := by
  intro d b Po L st h i' L' st' h' hf kk p l e R s m args below meth c A D K as0 n0 mc ms fm X F as ls H locs cells slots Y hL hn hc hs
  obtain ⟨sh, sg, ta, ro, xx⟩ := h
  cases hf
  have k' := kk p l e R s m args below meth c A D K as0 n0 mc ms fm X F as ls H locs cells slots Y hL hn hc hs
  rw [hp] at k'
  obtain ⟨fx, fb, fml, fown, fts, fN, fret, flk, fnm, fK, fA, fSt, fR⟩ := F
  have e : ro 9006 0 = fm := Y.2.2.2.1.2.2.1
  refine va_gets (C := "jdk/internal/util/Preconditions") (ref := "jdk/internal/util/Preconditions") fx fb (v := ab_tr as0 fm) fSt.2.2.1.2.2 Y.2.2.1 fown (fts _ hw) (fun _ h9 => h9) hd ?_
  have e2 : ab_tr as0 fm = ab_tr as (ro 9006 0) := by rw [e]; exact (ab_tr_ag (n := 0) Y.2.2.2.2.2 (Or.inr (ab_vok_le (Nat.zero_le _) Y.2.2.2.1.2.2.2.2))).symm
  rw [e2]
  exact k'
def aGSv (nx : Nat) : ab_F := fun L st h => match st with
  | .ref a :: r => bif Nat.beq a 9002 then some (nx, L, .ref 9004 :: r, h) else bif Nat.beq a 9003 then some (nx, L, .ref 9005 :: r, h) else none
  | _ => none
def aGSc (nx : Nat) : ab_F := fun L st h => match st with
  | .ref a :: r => bif Nat.beq a 9002 then some (nx, L, .int 0 :: r, h) else bif Nat.beq a 9003 then some (nx, L, .int 0 :: r, h) else none
  | _ => none
theorem s_getSv {M : ab_M} {i nx ix : Nat} (hd : decode (ab_by M) (ab_pc M i) = .ok (.getfield ix, 3)) (hw : Cond.fieldLink (ab_y M).cls ix "java/lang/String" "value" "[B" ∈ ab_good) (hp : ab_pc M nx = ab_pc M i + 3) : ab_S M i (aGSv nx) := by
  intro d b Po L st h i' L' st' h' hf kk p l e R s m args below meth c A D K as0 n0 mc ms fm X F as ls H locs cells slots Y hL hn hc hs
  have e9 : ∀ c, 9000 ≤ c → as c = as0 c := fun c hc => Y.2.2.2.2.2 c (Or.inr (Or.inl hc))
  unfold aGSv at hf
  split at hf
  case h_2 => cases hf
  rename_i a r
  rw [cond_eq_ite] at hf
  split at hf
  · rename_i ha
    have ha := Nat.beq_eq.mp ha
    subst ha
    cases hf
    have k' := kk p l e R s m args below meth c A D K as0 n0 mc ms fm X F as ls H locs cells slots Y hL hn hc hs
    rw [hp] at k'
    obtain ⟨fx, fb, fml, fown, fts, fN, fret, flk, fnm, fK, fA, fSt, fR⟩ := F
    have b1 : va_OF "java/lang/String" "value" "[B" (.ref (as 9004)) (as 9002) A s s.heap := by rw [e9 9004 (by omega), e9 9002 (by omega)]; exact (fSt.2.2.1.1.1 0 (by omega)).2.2.1
    exact vk_getf (o := "java/lang/String") (n := "value") (d := "[B") (ref := "java/lang/String") fx fb b1 Y.2.2.1 fown (fts _ hw) (fun _ h9 => h9) hd k'
  rw [cond_eq_ite] at hf
  split at hf
  · rename_i ha
    have ha := Nat.beq_eq.mp ha
    subst ha
    cases hf
    have k' := kk p l e R s m args below meth c A D K as0 n0 mc ms fm X F as ls H locs cells slots Y hL hn hc hs
    rw [hp] at k'
    obtain ⟨fx, fb, fml, fown, fts, fN, fret, flk, fnm, fK, fA, fSt, fR⟩ := F
    have b1 : va_OF "java/lang/String" "value" "[B" (.ref (as 9005)) (as 9003) A s s.heap := by rw [e9 9005 (by omega), e9 9003 (by omega)]; exact (fSt.2.2.1.1.1 1 (by omega)).2.2.1
    exact vk_getf (o := "java/lang/String") (n := "value") (d := "[B") (ref := "java/lang/String") fx fb b1 Y.2.2.1 fown (fts _ hw) (fun _ h9 => h9) hd k'
  cases hf
theorem s_getSc {M : ab_M} {i nx ix : Nat} (hd : decode (ab_by M) (ab_pc M i) = .ok (.getfield ix, 3)) (hw : Cond.fieldLink (ab_y M).cls ix "java/lang/String" "coder" "B" ∈ ab_good) (hp : ab_pc M nx = ab_pc M i + 3) : ab_S M i (aGSc nx) := by
  intro d b Po L st h i' L' st' h' hf kk p l e R s m args below meth c A D K as0 n0 mc ms fm X F as ls H locs cells slots Y hL hn hc hs
  have e9 : ∀ c, 9000 ≤ c → as c = as0 c := fun c hc => Y.2.2.2.2.2 c (Or.inr (Or.inl hc))
  unfold aGSc at hf
  split at hf
  case h_2 => cases hf
  rename_i a r
  rw [cond_eq_ite] at hf
  split at hf
  · rename_i ha
    have ha := Nat.beq_eq.mp ha
    subst ha
    cases hf
    have k' := kk p l e R s m args below meth c A D K as0 n0 mc ms fm X F as ls H locs cells slots Y hL hn hc hs
    rw [hp] at k'
    obtain ⟨fx, fb, fml, fown, fts, fN, fret, flk, fnm, fK, fA, fSt, fR⟩ := F
    have b1 : va_OF "java/lang/String" "coder" "B" (.int 0) (as 9002) A s s.heap := by rw [e9 9002 (by omega)]; exact (fSt.2.2.1.1.1 0 (by omega)).2.1
    exact vk_getf (o := "java/lang/String") (n := "coder") (d := "B") (ref := "java/lang/String") fx fb b1 Y.2.2.1 fown (fts _ hw) (fun _ h9 => h9) hd k'
  rw [cond_eq_ite] at hf
  split at hf
  · rename_i ha
    have ha := Nat.beq_eq.mp ha
    subst ha
    cases hf
    have k' := kk p l e R s m args below meth c A D K as0 n0 mc ms fm X F as ls H locs cells slots Y hL hn hc hs
    rw [hp] at k'
    obtain ⟨fx, fb, fml, fown, fts, fN, fret, flk, fnm, fK, fA, fSt, fR⟩ := F
    have b1 : va_OF "java/lang/String" "coder" "B" (.int 0) (as 9003) A s s.heap := by rw [e9 9003 (by omega)]; exact (fSt.2.2.1.1.1 1 (by omega)).2.1
    exact vk_getf (o := "java/lang/String") (n := "coder") (d := "B") (ref := "java/lang/String") fx fb b1 Y.2.2.1 fown (fts _ hw) (fun _ h9 => h9) hd k'
  cases hf
/-! the entries of a method, and the rules over them -/
def ab_rk (M : ab_M) (i : Nat) : Nat → Prop
  | 0 => decode (ab_by M) (ab_pc M i) = .ok (.return_, 1) ∧ ab_ret M = none
  | 1 => decode (ab_by M) (ab_pc M i) = .ok (.ireturn, 1) ∧ ab_ret M = some .int
  | 2 => decode (ab_by M) (ab_pc M i) = .ok (.lreturn, 1) ∧ ab_ret M = some .long
  | 3 => decode (ab_by M) (ab_pc M i) = .ok (.areturn, 1) ∧ ∃ cl, ab_ret M = some (.object cl)
  | 4 => decode (ab_by M) (ab_pc M i) = .ok (.ireturn, 1) ∧ ab_ret M = some .boolean
  | 5 => decode (ab_by M) (ab_pc M i) = .ok (.ireturn, 1) ∧ ab_ret M = some .byte
  | 6 => decode (ab_by M) (ab_pc M i) = .ok (.ireturn, 1) ∧ ab_ret M = some .char
  | _ => False
def ab_okA (M : ab_M) (i : Nat) : ab_A → Prop
  | .inl f => ab_S M i f
  | .inr (.inl kd) => ab_rk M i kd
  | .inr (.inr (.inl (kd, g, na, nx))) => ab_Lk (ab_y M).cls (ab_by M) (ab_pc M i) kd g na ∧ ab_pc M nx = ab_pc M i + 3
  | .inr (.inr (.inr (kd, N, nx))) => match kd with
    | 0 => decode (ab_by M) (ab_pc M i) = .ok (.newarray .int, 2) ∧ ab_pc M nx = ab_pc M i + 2
    | 1 => decode (ab_by M) (ab_pc M i) = .ok (.newarray .byte, 2) ∧ ab_pc M nx = ab_pc M i + 2
    | 2 => decode (ab_by M) (ab_pc M i) = .ok (.newarray .boolean, 2) ∧ ab_pc M nx = ab_pc M i + 2
    | 3 => decode (ab_by M) (ab_pc M i) = .ok (.newarray .long, 2) ∧ ab_pc M nx = ab_pc M i + 2
    | ci + 10 => ab_Nb (ab_y M).cls (ab_by M) (ab_pc M i) ci N ∧ ab_pc M nx = ab_pc M i + 3
    | _ => False
def ab_ok (M : ab_M) : Nat → List ab_A → Prop
  | _, [] => True
  | i, a :: r => ab_okA M i a ∧ ab_ok M (i + 1) r
theorem ab_ok_get {M : ab_M} : ∀ {l : List ab_A} {j i : Nat} {a : ab_A}, ab_ok M j l → l[i]? = some a → ab_okA M (j + i) a
  | [], _, _, _, _, h => by simp at h
  | _ :: _, j, 0, a, ok, h => by
    simp at h
    subst h
    exact ok.1
  | _ :: r, j, i + 1, a, ok, h => by
    rw [List.getElem?_cons_succ] at h
    have := ab_ok_get ok.2 h
    rw [show j + (i + 1) = j + 1 + i by omega]
    exact this
theorem ab_okat {M : ab_M} (ok : ab_ok M 0 (ab_cd M)) {i : Nat} {a : ab_A} (h : (ab_cd M)[i]? = some a) : ab_okA M i a := by
  have := ab_ok_get ok h
  rwa [Nat.zero_add] at this
/-- a run of ordinary steps -/
def ab_run (M : ab_M) : Nat → Nat → ab_L → List Value → ab_H → ab_R
  | 0, i, L, st, h => some (i, L, st, h)
  | n + 1, i, L, st, h => match (ab_cd M)[i]? with
    | some (.inl f) => match f L st h with
      | some (i', L', st', h') => ab_run M n i' (ab_mk M i' L') st' h'
      | none => none
    | _ => none
theorem ab_go {M : ab_M} (ok : ab_ok M 0 (ab_cd M)) {d : Nat} {b : Nat × Nat} {Po : Option Value → ab_H → Prop} : ∀ (n : Nat) {i i' : Nat} {L L' : ab_L} {st st' : List Value} {h h' : ab_H}, ab_run M n i L st h = some (i', L', st', h') → ab_Z M d b Po i' L' st' h' → ab_Z M d b Po i L st h
  | 0, i, i', L, L', st, st', h, h', hr, k => by cases hr; exact k
  | n + 1, i, i', L, L', st, st', h, h', hr, k => by
    unfold ab_run at hr
    split at hr
    · rename_i f hf
      split at hr
      · rename_i i1 L1 st1 h1 h2
        exact ab_okat ok hf d b Po L st h i1 L1 st1 h1 h2 (ab_Z.mask (ab_go ok n hr k))
      · cases hr
    · cases hr
/-- a step that splits -/
theorem ab_br {M : ab_M} (ok : ab_ok M 0 (ab_cd M)) {d : Nat} {b : Nat × Nat} {Po : Option Value → ab_H → Prop} {i : Nat} {L : ab_L} {st : List Value} {h : ab_H} {f : ab_F} {C : Prop} [Decidable C] {i1 i2 : Nat} {L1 L2 : ab_L} {st1 st2 : List Value} {h1 h2 : ab_H} (hA : (ab_cd M)[i]? = some (.inl f)) (hf : f L st h = if C then some (i1, L1, st1, h1) else some (i2, L2, st2, h2)) (k1 : C → ab_Z M d b Po i1 (ab_mk M i1 L1) st1 h1) (k2 : ¬ C → ab_Z M d b Po i2 (ab_mk M i2 L2) st2 h2) : ab_Z M d b Po i L st h := by
  by_cases hC : C
  · rw [if_pos hC] at hf
    exact ab_okat ok hA d b Po L st h _ _ _ _ hf (ab_Z.mask (k1 hC))
  · rw [if_neg hC] at hf
    exact ab_okat ok hA d b Po L st h _ _ _ _ hf (ab_Z.mask (k2 hC))
/-- a step that asks something -/
theorem ab_ck {M : ab_M} (ok : ab_ok M 0 (ab_cd M)) {d : Nat} {b : Nat × Nat} {Po : Option Value → ab_H → Prop} {i : Nat} {L : ab_L} {st : List Value} {h : ab_H} {f : ab_F} {C : Prop} [Decidable C] {i1 : Nat} {L1 : ab_L} {st1 : List Value} {h1 : ab_H} (hA : (ab_cd M)[i]? = some (.inl f)) (hf : f L st h = if C then some (i1, L1, st1, h1) else none) (hC : C) (k1 : ab_Z M d b Po i1 (ab_mk M i1 L1) st1 h1) : ab_Z M d b Po i L st h := by
  rw [if_pos hC] at hf
  exact ab_okat ok hA d b Po L st h _ _ _ _ hf (ab_Z.mask k1)
theorem ab_rI {M : ab_M} (ok : ab_ok M 0 (ab_cd M)) {d : Nat} {b : Nat × Nat} {Po : Option Value → ab_H → Prop} {i : Nat} {L : ab_L} {h : ab_H} {v : Int32} (hA : (ab_cd M)[i]? = some (.inr (.inl 1))) (hp : Po (some (.int v)) h) : ab_Z M d b Po i L [.int v] h := ab_retI (ab_okat ok hA).1 (ab_okat ok hA).2 hp
theorem ab_rV {M : ab_M} (ok : ab_ok M 0 (ab_cd M)) {d : Nat} {b : Nat × Nat} {Po : Option Value → ab_H → Prop} {i : Nat} {L : ab_L} {h : ab_H} (hA : (ab_cd M)[i]? = some (.inr (.inl 0))) (hp : Po none h) : ab_Z M d b Po i L [] h := ab_retV (ab_okat ok hA).1 (ab_okat ok hA).2 hp
theorem ab_rL {M : ab_M} (ok : ab_ok M 0 (ab_cd M)) {d : Nat} {b : Nat × Nat} {Po : Option Value → ab_H → Prop} {i : Nat} {L : ab_L} {h : ab_H} {v : Int64} (hA : (ab_cd M)[i]? = some (.inr (.inl 2))) (hp : Po (some (.long v)) h) : ab_Z M d b Po i L [.long v] h := ab_retL (ab_okat ok hA).1 (ab_okat ok hA).2 hp
theorem ab_rA {M : ab_M} (ok : ab_ok M 0 (ab_cd M)) {d : Nat} {b : Nat × Nat} {Po : Option Value → ab_H → Prop} {i : Nat} {L : ab_L} {h : ab_H} {a : Nat} (hA : (ab_cd M)[i]? = some (.inr (.inl 3))) (hp : Po (some (.ref a)) h) : ab_Z M d b Po i L [.ref a] h := by
  obtain ⟨h1, cl, h2⟩ := ab_okat ok hA
  exact ab_retA h1 h2 hp
theorem ab_rZ {M : ab_M} (ok : ab_ok M 0 (ab_cd M)) {d : Nat} {b : Nat × Nat} {Po : Option Value → ab_H → Prop} {i : Nat} {L : ab_L} {h : ab_H} {v : Int32} (hA : (ab_cd M)[i]? = some (.inr (.inl 4))) (hv : v = 0 ∨ v = 1) (hp : Po (some (.int v)) h) : ab_Z M d b Po i L [.int v] h := ab_retZ (ab_okat ok hA).1 (ab_okat ok hA).2 (by rcases hv with rfl | rfl <;> rfl) hp
/-- a call that makes nothing -/
theorem ab_cl {M : ab_M} (ok : ab_ok M 0 (ab_cd M)) {d : Nat} {b : Nat × Nat} {Po Po' : Option Value → ab_H → Prop} {i : Nat} {L : ab_L} {st : List Value} {h : ab_H} {kd : Nat} {g : ab_Sg} {na nx : Nat} (hA : (ab_cd M)[i]? = some (.inr (.inr (.inl (kd, g, na, nx))))) (vs rest : List Value) (hst : st = vs.reverse ++ rest) (hvs : if ab_cs kd then vs.length = na else ∃ a vs', vs = .ref a :: vs' ∧ vs'.length = na ∧ ab_Rv h a g.1.cls) (hsum : ab_sum rest ≤ 8) (hT : ab_T g d (0, 0) vs h Po') (k : ∀ v h', Po' v h' → ab_Z M (d + 1) b Po nx (ab_mk M nx L) (v.toList ++ rest) h') : ab_Z M (d + 1) b Po i L st h := by
  subst hst
  exact ab_call (b := b) (b' := (0, 0)) (ab_okat ok hA).1 (ab_okat ok hA).2 hvs hsum (Or.inl rfl) hT (fun v h' hp => ab_Z.mask (k v h' hp))
