theorem ab_goodIn {g : ab_Sg} (hc : Cond.code g.1 g.2.1 g.2.2.1 g.2.2.2 ∈ ab_good) : GoodIn ab_good (ab_ws g) := by
  intro w hw
  have h : w ∈ ab_good := by
    rcases List.mem_cons.mp hw with rfl | h
    · exact hc
    · exact h
  exact ⟨h, good_of_word (List.mem_filter.mp h).2⟩
theorem ab_blind {av : List Value} {D : va_G} {K : ab_K} {as : Nat → Nat} {h : ab_H} {sz : Nat} {fm : Value} {X : Nat × (Nat → Int32)} : FrameBlind (va_Pc av (ab_Pre D K as h sz fm X)) := by
  intro a U g mk q
  obtain ⟨q0, q1, qP, qK, qD, qN, qS⟩ := q
  exact ⟨q0, q1, qP, va_K.moved (u := U) (U := U.calling g mk a) (Vm.Alike.refl U.vm) qK, qD, ab_nest_same (s := U) (U := U.calling g mk a) rfl qN, ab_St.same (s := U) (U := U.calling g mk a) rfl qS⟩
set_option maxHeartbeats 1000000 in
theorem ab_T_of {M : ab_M} {d : Nat} {b : Nat × Nat} {vs : List Value} {h : ab_H} {Po : Option Value → ab_H → Prop} (hpl : plainName (ab_y M).cls = true) (h0 : ab_pc M 0 = 0) (hlen : (ab_ent vs).length ≤ ab_nL M) (k : ab_Z M d b Po 0 (ab_entry (ab_nL M) vs) [] h) : ab_T M.1 d b vs h Po := by
  intro l D K as sz fm X hwf
  refine Met.ofW (cc := ab_by M) (maxL := ab_nL M) (ret := ab_ret M) hpl rfl ?_
  intro p e s m args below meth c s₁ B hml hv
  obtain ⟨rfl, hsz, hP, hK, hD0, hN, hSt⟩ := hv
  subst hsz
  have hts := atoms_spec (ws := ab_ws M.1) B.pre
  have hown : s.vm.findClass (ab_y M).cls = some m.cls := findClass_of_methodNamed B.named
  have hname : meth.name = (ab_y M).name := (name_of_methodNamed B.named B.method).1
  rw [lg_entry_eq]
  have hD : va_D (va_A (ab_w K as h) s.heap.size) (ab_w K as h) := hD0.self
  have := k p l e (ab_rm d b.1 b.2) s m (vs.map (ab_tr as)).toArray below meth c (va_A (ab_w K as h) s.heap.size) D K as h.1.length b.1 b.2 fm X ⟨B.exec, B.bytes, hml, hown, fun w hw => hts w (List.mem_cons_of_mem _ hw), hN, B.returns, B.notSynchronized, hname, hK, fun q hq => Or.inr hq, hSt, rfl⟩ as _ s.heap [] 0 0 ⟨hP, hD, va_S.rf, hwf, Nat.le_refl _, fun _ _ => rfl⟩ (ab_LH.entry as vs hlen) (ab_entry_len hlen) (by omega) (by omega)
  rw [h0] at this
  exact this
theorem ab_free {A : Nat → Prop} {K : ab_K} {as : Nat → Nat} {h : ab_H} {H0 H : Heap} {locs : List Loc} (hD : va_D A (ab_w K as h)) (hS : va_S A H0 H locs) (hA : ∀ q, H0.size ≤ q → A q) : ∀ q, va_A (ab_w K as h) H.size q → A q := by
  intro q hq
  rcases hq with ⟨k, e, hk⟩ | hq
  · exact hD.2 k _ hk
  · exact hA q (Nat.le_trans hS.1 hq)
theorem ab_back {p : Program} {l : Launch} {e : Env} {R : Room} {s : State} {m : MethodId} {args : Array Value} {below : List Frame} {meth : Method} {c : Code} {H : Heap} {locs : List Loc} {cells slots : Nat} {Q : State → Prop} {A : Nat → Prop} {D : va_G} {K : ab_K} {as0 as : Nat → Nat} {n0 mc mc' ms' pc : Nat} {fm : Value} {X : Nat × (Nat → Int32)} {ls : Array Slot} {st0 rest : List Value} {h : ab_H} {L : ab_L} {Po' : Option Value → ab_H → Prop} {av : Array Value}
    (hA : ∀ q, s.heap.size ≤ q → A q) (Y : ab_Dy A D K as0 n0 mc fm X s as H locs h) (hL : ab_LH as ls L) (hm : mc = 0 → mc' = 0) (hvL : mc' = 0 ∨ ((∀ v, some v ∈ L → ab_vok h.1.length v) ∧ ∀ v ∈ rest, ab_vok h.1.length v))
    (hr : va_Run p l e R s m args below meth c H locs cells slots mc' ms' (F0 m pc ls st0) (rest.map (ab_tr as)) (ab_Qc (va_A (ab_w K as h) H.size) D K as h.1.length mc' fm X Po' av) (va_A (ab_w K as h) H.size))
    (kk : ∀ (v : Option Value) (h' : ab_H) (as' : Nat → Nat) (H1 : Heap) (locs1 : List Loc), Po' v h' → ab_Dy A D K as0 n0 mc fm X s as' H1 locs1 h' → ab_LH as' ls L → W p l e R s m args below meth c H1 locs1 (cells + mc') (slots + ms') Q (F0 m (pc + 3) ls ((v.toList ++ rest).map (ab_tr as')))) : W p l e R s m args below meth c H locs cells slots Q (F0 m pc ls st0) := by
  obtain ⟨hP, hD, hS, hwf, hn0, hAg⟩ := Y
  have hF := ab_free hD hS hA
  intro T hT X0
  obtain ⟨v, st₀, t, T', L1, h0, X', hL1, e1, e2, ⟨⟨v', h', as', hPo, hv, hP1, hD1, hwf1, hn1, hAg1⟩, hz, hk⟩, st⟩ := hr T hT X0
  cases hv
  rw [h0] at hz hk
  have hS1 : va_S A s.heap T'.heap (locs ++ L1) := ⟨Nat.le_trans hS.1 (by rw [e1]; exact hz), fun q h1 h2 => by rw [e1, hk q (Nat.lt_of_lt_of_le h1 hS.1) (fun z => h2 (hF q z))]; exact hS.2.1 q h1 h2, fun q hq => by
      rcases List.mem_append.mp hq with h | h
      · exact hS.2.2 q h
      · exact hF _ (hL1 q h)⟩
  have hAg2 : ab_Ag mc n0 as0 as' := by
    intro c hc
    rw [← hAg c hc]
    apply hAg1
    rcases hc with hc | hc | hc
    · exact Or.inl (Nat.lt_of_lt_of_le hc hn0)
    · exact Or.inr (Or.inl hc)
    · exact Or.inr (Or.inr (hm hc))
  have htr : ∀ v, (mc' = 0 ∨ ab_vok h.1.length v) → ab_tr as' v = ab_tr as v := fun v hv => ab_tr_ag (n := 0) hAg1 hv
  have hL2 : ab_LH as' ls L := ⟨hL.1, hL.2.1, fun i v hi => by
    rw [htr v (hvL.elim Or.inl (fun z => Or.inr (z.1 v (List.mem_of_getElem? hi))))]
    exact hL.2.2 i v hi⟩
  have hrest : rest.map (ab_tr as') = rest.map (ab_tr as) := List.map_congr_left fun v hv => htr v (hvL.elim Or.inl (fun z => Or.inr (z.2 v hv)))
  have ek : (v'.map (ab_tr as')).toList ++ rest.map (ab_tr as) = (v'.toList ++ rest).map (ab_tr as') := by
    rw [List.map_append, hrest]
    cases v' <;> rfl
  obtain ⟨t2, a1, b1⟩ := kk v' h' as' T'.heap (locs ++ L1) hPo ⟨by rw [e1]; exact hP1, hD1.weaken (fun k q _ hq => hF q.1 hq), hS1, hwf1, Nat.le_trans hn0 hn1, hAg2⟩ hL2 T' rfl X'
  exact ⟨t2, st t2 (by rw [ek]; exact a1), b1⟩
/-- a receiver of that class -/
def ab_Rv (h : ab_H) (a : Nat) (cls : String) : Prop := (∃ ci n, h.1[a]? = some (ci + 10, n) ∧ (vwCl[ci]?).map (fun q => q.1) = some cls) ∨ ((a = 9002 ∨ a = 9003) ∧ cls = "java/lang/String")
theorem ab_cell_o {K : ab_K} {as : Nat → Nat} {h : ab_H} {a ci n : Nat} (e : h.1[a]? = some (ci + 10, n)) : ab_cell K as h a = .inr (ci, (List.range n).map (ab_fv as h a ci)) := by
  unfold ab_cell
  rw [e]
theorem ab_recv {A : Nat → Prop} {D : va_G} {K : ab_K} {as0 as : Nat → Nat} {n0 mc : Nat} {fm : Value} {X : Nat × (Nat → Int32)} {s : State} {H : Heap} {locs : List Loc} {h : ab_H} {a : Nat} {cls : String} (hK : va_K D vwCl (ab_tys K) s) (hSt : ab_St A as0 fm X s s.heap) (Y : ab_Dy A D K as0 n0 mc fm X s as H locs h) (hr : ab_Rv h a cls) : ∃ cell : Cell, H[as a]? = some cell ∧ cell.vm.isStatics = false ∧ s.vm.findClass cls = some cell.cls := by
  obtain ⟨hP, hD, hS, hwf, hn0, hAg⟩ := Y
  rcases hr with ⟨ci, n, e, hc⟩ | ⟨ha, rfl⟩
  · have hl : a < h.1.length := (List.getElem?_eq_some_iff.mp e).1
    obtain ⟨q, hq, rfl⟩ := Option.map_eq_some_iff.mp hc
    exact va_recv hK hP hq (by rw [ab_w_get K as h hl, ab_cell_o e])
  · have e9 : as a = as0 a := hAg a (Or.inr (Or.inl (by omega)))
    rw [e9]
    rcases ha with rfl | rfl
    · exact vk_recv (i := 0) hSt.2.2.1.1 (by omega) hS
    · exact vk_recv (i := 1) hSt.2.2.1.1 (by omega) hS
theorem ab_pre {A : Nat → Prop} {D : va_G} {K : ab_K} {as0 as : Nat → Nat} {n0 mc : Nat} {fm : Value} {X : Nat × (Nat → Int32)} {s : State} {H : Heap} {locs : List Loc} {h : ab_H} (hK : va_K D vwCl (ab_tys K) s) (hN : ∀ w ∈ ab_nest, va_Nw w s) (hA : ∀ q, s.heap.size ≤ q → A q) (hSt : ab_St A as0 fm X s s.heap) (Y : ab_Dy A D K as0 n0 mc fm X s as H locs h) (U : State) (hU : U.heap = H) (hW : s.WarmedH U.vm) : ab_Pre D K as h H.size fm X U := by
  obtain ⟨hP, hD, hS, hwf, hn0, hAg⟩ := Y
  refine ⟨by rw [hU], by rw [hU]; exact hP, va_K.moved hW.alike hK, hD.weaken (fun _ _ _ _ => trivial), ab_nest_warm hW hN, ?_⟩
  rw [hU]
  exact ((((hSt.kept hS.1 hS.2.1).narrow (ab_free hD hS hA)).warm hW).ag hwf.2.2.2.2 hAg)
def ab_cs (kd : Nat) : Bool := kd == 1 || kd == 4
set_option maxHeartbeats 2000000 in
theorem ab_call {M : ab_M} {d : Nat} {b b' : Nat × Nat} {Po Po' : Option Value → ab_H → Prop} {i : Nat} {L : ab_L} {h : ab_H} {kd : Nat} {g : ab_Sg} {na nx : Nat} {vs rest : List Value} (hk : ab_Lk (ab_y M).cls (ab_by M) (ab_pc M i) kd g na) (hpn : ab_pc M nx = ab_pc M i + 3)
    (hvs : if ab_cs kd then vs.length = na else ∃ a vs', vs = .ref a :: vs' ∧ vs'.length = na ∧ ab_Rv h a g.1.cls) (hsum : (rest.map fun v => v.category).sum ≤ 8) (hvL : b'.1 = 0 ∨ ((∀ v, some v ∈ L → ab_vok h.1.length v) ∧ ∀ v ∈ rest, ab_vok h.1.length v))
    (hT : ab_T g d b' vs h Po') (k : ∀ v h', Po' v h' → ab_Z M (d + 1) b Po nx L (v.toList ++ rest) h') : ab_Z M (d + 1) (b.1 + b'.1, b.2 + b'.2) Po i L (vs.reverse ++ rest) h := by
  intro p l e R s m args below meth c A D K as0 n0 mc ms fm X F as ls H locs cells slots Y hL hn hc hs
  obtain ⟨fx, fb, fml, fown, fts, fN, fret, flk, fnm, fK, fA, fSt, fR⟩ := F
  dsimp only at hc hs
  have hM := hT l D K as H.size fm X Y.2.2.2.1
  have hfr : (ab_rm d b'.1 b'.2).frames + 1 ≤ R.frames ∧ 8 + (g.2.2.1 + 11) + (ab_rm d b'.1 b'.2).locals ≤ R.locals := by
    rw [fR]; have := hk.2.2.2.1; simp only [ab_rm]; omega
  have hf : cells + b'.1 ≤ R.cells ∧ slots + b'.2 ≤ R.slots := by rw [fR]; simp only [ab_rm]; omega
  have hsum' : ((rest.map (ab_tr as)).map fun v => v.category).sum ≤ 8 := by
    rw [List.map_map, show ((fun v : Value => v.category) ∘ ab_tr as) = fun v => v.category from funext fun v => ab_tr_cat as v]; exact hsum
  have hwm : ∀ (pc : Nat) (ls : Array Slot) (rs : List Value), 2 * (F0 m pc ls rs).monitorRoom + ((rest.map (ab_tr as)).map fun v => v.category).sum ≤ 8 := fun _ _ _ => lv_room hsum'
  have hstk : (vs.reverse ++ rest).map (ab_tr as) = (vs.map (ab_tr as)).reverse ++ rest.map (ab_tr as) := by simp
  rw [hstk]
  have hbk : ∀ (av : Array Value), va_Run p l e R s m args below meth c H locs cells slots b'.1 b'.2 (F0 m (ab_pc M i) ls ((vs.map (ab_tr as)).reverse ++ rest.map (ab_tr as))) (rest.map (ab_tr as)) (ab_Qc (va_A (ab_w K as h) H.size) D K as h.1.length b'.1 fm X Po' av) (va_A (ab_w K as h) H.size) → W p l e R s m args below meth c H locs cells slots (MQ below (ab_Qc A D K as0 n0 mc fm X Po) args s mc ms A) (F0 m (ab_pc M i) ls ((vs.map (ab_tr as)).reverse ++ rest.map (ab_tr as))) := by
    intro av hr
    refine ab_back fA Y hL (by omega) hvL hr fun v h' as' H1 locs1 hPo Y1 hL1 => ?_
    have := k v h' hPo p l e R s m args below meth c A D K as0 n0 mc ms fm X ⟨fx, fb, fml, fown, fts, fN, fret, flk, fnm, fK, fA, fSt, fR⟩ as' ls H1 locs1 (cells + b'.1) (slots + b'.2) Y1 hL1 hn (by omega) (by omega)
    rw [hpn] at this
    exact this
  obtain ⟨hcode, hini, hd, hmx, hkk⟩ := hk
  have hG := ab_goodIn hcode
  have hsz : (F0 m (ab_pc M i) ls ((vs.map (ab_tr as)).reverse ++ rest.map (ab_tr as))).locals.size = ab_nL M := by show ls.size = _; rw [hL.1, hn]
  have hpre := ab_pre fK fN fA fSt Y
  match kd, hkk, hvs with
  | 0, ⟨ix, hdg, w1, w2, w3⟩, hvs =>
    obtain ⟨a, vs', rfl, hln, hrv⟩ := hvs
    refine hbk _ (va_runV (Ts := ab_good) (own := (ab_y M).cls) (C := g.1.cls) (b := as a) (As := vs'.map (ab_tr as)) ⟨fx, fb, fml, fown, fts⟩ hM ⟨callB_of na fts hG rfl rfl rfl (fts _ hini) (fts _ w1) hd hfr, fts _ w2, fts _ w3⟩ ⟨ab_blind, ab_recv fK fSt Y hrv, fun U hU hW => ⟨rfl, hpre U hU hW⟩⟩ rfl (by simp [hln]) hsz (by simp [ab_tr]) (hwm _ _ _) hdg hf)
  | 1, ⟨ix, hdg, w1, w2⟩, hvs =>
    refine hbk _ (va_runS (Ts := ab_good) (own := (ab_y M).cls) (As := vs.map (ab_tr as)) ⟨fx, fb, fml, fown, fts⟩ hM ⟨callB_of na fts hG rfl rfl rfl (fts _ hini) (fts _ w1) hd hfr, fts _ w2⟩ ⟨ab_blind, fun U hU hW => ⟨rfl, hpre U hU hW⟩⟩ rfl (by rw [List.length_map]; exact hvs) hsz rfl (hwm _ _ _) hdg hf)
  | 2, ⟨ix, hdg, w1, w2, w3, w4⟩, hvs =>
    obtain ⟨a, vs', rfl, hln, -⟩ := hvs
    refine hbk _ (va_runI (Ts := ab_good) (own := (ab_y M).cls) (b := as a) (As := vs'.map (ab_tr as)) ⟨fx, fb, fml, fown, fts⟩ hM ⟨callB_of na fts hG (by rw [ab_ws, w4]) rfl rfl (fts _ hini) (fts _ w1) hd hfr, w3, fts _ w2⟩ ⟨ab_blind, fun U hU hW => ⟨rfl, hpre U hU hW⟩⟩ rfl (by simp [hln]) hsz (by simp [ab_tr]) (hwm _ _ _) hdg hf)
  | 3, ⟨ix, host, hdg, w1, w2, w3⟩, hvs =>
    obtain ⟨a, vs', rfl, hln, hrv⟩ := hvs
    refine hbk _ (va_runVN (Ts := ab_good) (own := (ab_y M).cls) (C := g.1.cls) (b := as a) (As := vs'.map (ab_tr as)) ⟨fx, fb, fml, fown, fts⟩ hM ⟨va_cnB na fts hG rfl rfl rfl (fN _ w1) (fts _ hini) hd hfr, fts _ w2, fts _ w3⟩ ⟨ab_blind, ab_recv fK fSt Y hrv, fun U hU hW => ⟨rfl, hpre U hU hW⟩⟩ rfl (by simp [hln]) hsz (by simp [ab_tr]) (hwm _ _ _) hdg hf)
  | 4, ⟨ix, host, hdg, w1, w2⟩, hvs =>
    refine hbk _ (va_runSN (Ts := ab_good) (own := (ab_y M).cls) (As := vs.map (ab_tr as)) ⟨fx, fb, fml, fown, fts⟩ hM ⟨va_cnB na fts hG rfl rfl rfl (fN _ w1) (fts _ hini) hd hfr, fts _ w2, trivial⟩ ⟨ab_blind, fun U hU hW => ⟨rfl, hpre U hU hW⟩⟩ rfl (by rw [List.length_map]; exact hvs) hsz rfl (hwm _ _ _) hdg hf)
  | 5, ⟨ix, host, hdg, w1, w2, w3, w4⟩, hvs =>
    obtain ⟨a, vs', rfl, hln, -⟩ := hvs
    refine hbk _ (va_runIN (Ts := ab_good) (own := (ab_y M).cls) (b := as a) (As := vs'.map (ab_tr as)) ⟨fx, fb, fml, fown, fts⟩ hM ⟨va_cnB na fts hG (by rw [ab_ws, w4]) rfl rfl (fN _ w1) (fts _ hini) hd hfr, w3, fts _ w2⟩ ⟨ab_blind, fun U hU hW => ⟨rfl, hpre U hU hW⟩⟩ rfl (by simp [hln]) hsz (by simp [ab_tr]) (hwm _ _ _) hdg hf)
