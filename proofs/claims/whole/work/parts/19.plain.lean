/-- as ab_T_of, for a class of which some methods are run by an entry: of this method there is none -/
theorem ab_T_ofF {M : ab_M} {d : Nat} {b : Nat × Nat} {vs : List Value} {h : ab_H} {Po : Option Value → ab_H → Prop} (hpl : plainFor (ab_y M) = true) (h0 : ab_pc M 0 = 0) (hlen : (ab_ent vs).length ≤ ab_nL M) (k : ab_Z M d b Po 0 (ab_entry (ab_nL M) vs) [] h) : ab_T M.1 d b vs h Po := by
  intro l D K as sz fm X hwf
  refine MetFree.of_bodySF (code := ab_by M) (maxLocals := ab_nL M) (ret := ab_ret M) hpl ?_ ?_
  · intro args s m h hn
    obtain ⟨meth, c, h1, h2, h3, h4, h5, h6, -, -⟩ := Cond.code_spec hn (atoms_spec (ws := ab_ws M.1) h _ List.mem_cons_self)
    exact ⟨meth, c, h1, h2, h3, h4, h5, h6⟩
  intro p e s m args below meth c s₁ B hml hv _
  obtain ⟨rfl, hsz, hP, hK, hD0, hN, hSt⟩ := hv
  subst hsz
  have hts := atoms_spec (ws := ab_ws M.1) B.pre
  have hown : s.vm.findClass (ab_y M).cls = some m.cls := findClass_of_methodNamed B.named
  have hname : meth.name = (ab_y M).name := (name_of_methodNamed B.named B.method).1
  have hh0 : s₁.heap = s.heap := by rw [B.state]; rfl
  have hD : va_D (va_A (ab_w K as h) s.heap.size) (ab_w K as h) := hD0.self
  have K0 := k p l e (ab_rm d b.1 b.2) s m (vs.map (ab_tr as)).toArray below meth c (va_A (ab_w K as h) s.heap.size) D K as h.1.length b.1 b.2 fm X ⟨B.exec, B.bytes, hml, hown, fun w hw => hts w (List.mem_cons_of_mem _ hw), hN, B.returns, B.notSynchronized, hname, hK, fun q hq => Or.inr hq, hSt, rfl⟩ as _ s.heap [] 0 0 ⟨hP, hD, va_S.rf, hwf, Nat.le_refl _, fun _ _ => rfl⟩ (ab_LH.entry as vs hlen) (ab_entry_len hlen) (by omega) (by omega)
  rw [h0, List.map_nil, ← lg_entry_eq] at K0
  obtain ⟨t, a1, o, b1, b2, b3⟩ := K0 s₁ hh0 (Stand.of_body B)
  exact ⟨t, o, a1, b1, b2, ⟨b3.1, b3.2⟩⟩
