/-! The judgement: from a place in a method's code, with these locals, stack and heap, the machine comes to the method's end with Po. -/
abbrev ab_Sg : Type := MethodName × ByteArray × Nat × Option FieldType
abbrev ab_R : Type := Option (Nat × ab_L × List Value × ab_H)
abbrev ab_F : Type := ab_L → List Value → ab_H → ab_R
/-- an act: a step; an end (kind 0 void, 1 int, 2 long, 3 reference, 4 boolean or byte or char); a call (kind, whom, how many arguments, next); a making (kind, what, next) -/
abbrev ab_A : Type := ab_F ⊕ Nat ⊕ (Nat × ab_Sg × Nat × Nat) ⊕ (Nat × Nat × Nat)
abbrev ab_M : Type := ab_Sg × List ab_A × List Nat × List (Nat × List Bool)
abbrev ab_y (M : ab_M) : MethodName := M.1.1
abbrev ab_by (M : ab_M) : ByteArray := M.1.2.1
abbrev ab_nL (M : ab_M) : Nat := M.1.2.2.1
abbrev ab_ret (M : ab_M) : Option FieldType := M.1.2.2.2
abbrev ab_cd (M : ab_M) : List ab_A := M.2.1
def ab_pc (M : ab_M) (i : Nat) : Nat := M.2.2.1.getD i 0
def ab_mk (M : ab_M) (i : Nat) (L : ab_L) : ab_L := match M.2.2.2.lookup i with
  | none => L
  | some k => ab_mask k L
def ab_good : List Cond := lw_tbl.filter goodWord
def ab_isN : Cond → Bool
  | .fieldLinkNest .. => true
  | .methodLinkNest .. => true
  | _ => false
def ab_nest : List Cond := lw_tbl.filter ab_isN
def ab_ws (g : ab_Sg) : List Cond := Cond.code g.1 g.2.1 g.2.2.1 g.2.2.2 :: ab_good
def ab_rm (d mc ms : Nat) : Room := { frames := d + 2, cells := mc, slots := ms, locals := 100 * d + 100 }
def ab_tys (K : ab_K) : List (ClassId × FieldType) := [(K.1, .int), (K.2.1, .byte), (K.2.2.1, .boolean), (K.2.2.2, .long)]
def ab_wgI : Nat → Int32
  | 0 => 7776 | 1 => 1296 | 2 => 216 | 3 => 36 | 4 => 6 | _ => 1
def ab_byt : List (List Int32) := [
  [99,108,101,114,107,32,100,101,101,100,32,116,114,101,97,116,121,32,116,97,107,101,115,32,103,114,111,119,115,32,98,105,110,100,115,32,102,97,100,101,115,32,115,108,105,112,115,32,115,101,101,100,32,105,102,32,116,104,101,110,32,101,108,115,101,32,110,101,101,100,32,108,101,118,101,108,32,97,103,101,32,119,111,114,116,104,32,102,101,97,116,117,114,101,32,121,101,97,114,32,115,101,97,108,101,100,32,119,104,105,99,104,32,112,114,105,110,116,32],
  [59,61,43,45,42,47,60,40,41]]
def ab_wds : String := "clerk deed treaty takes grows binds fades slips seed if then else need level age worth feature year sealed which print "
def ab_sgn : String := ";=+-*/<()"
/-- what stands outside the world: WEIGHTS, the script, the two Strings, two statics of the JDK -/
def ab_St (A : Nat → Prop) (as : Nat → Nat) (fm : Value) (X : Nat × (Nat → Int32)) (U : State) (H : Heap) : Prop :=
  (va_Z "SealFaces$Plan" "WEIGHTS" "[I" (.ref (as 9000)) A U H ∧ va_T .int (as 9000) 6 (fun j => .int (ab_wgI j)) A U H) ∧
  (va_X (as 9001) X.1 X.2 U H ∧ as 9001 < H.size ∧ ¬ A (as 9001)) ∧
  (vk_S 2 [119, 9] ab_byt (fun i => as (9002 + i)) (fun i => as (9004 + i)) A U H ∧ va_Z "java/lang/String" "COMPACT_STRINGS" "Z" (.int 1) A U H ∧ va_Z "jdk/internal/util/Preconditions" "SIOOBE_FORMATTER" "Ljava/util/function/BiFunction;" (ab_tr as fm) A U H) ∧
  (vk_R "SealFaces$Tokens" 29 ab_wds (as 9002) U ∧ vk_R "SealFaces$Tokens" 82 ab_sgn (as 9003) U)
def ab_vok (n : Nat) : Value → Prop
  | .ref a => a < n ∨ 9000 ≤ a
  | _ => True
def ab_vokb (n : Nat) : Value → Bool
  | .ref a => Nat.blt a n || Nat.ble 9000 a
  | _ => true
theorem ab_vok_b {n : Nat} {v : Value} (h : ab_vokb n v = true) : ab_vok n v := by
  cases v <;> first | trivial | skip
  simp only [ab_vokb, Bool.or_eq_true, Nat.blt_eq, Nat.ble_eq] at h
  exact h
theorem ab_vok_le {n n' : Nat} (h : n ≤ n') {v : Value} (hv : ab_vok n v) : ab_vok n' v := by
  cases v <;> first | trivial | skip
  exact hv.elim (fun x => Or.inl (Nat.lt_of_lt_of_le x h)) Or.inr
/-- a heap that is well made: its references are places of it, or of those outside -/
def ab_wf (h : ab_H) (fm : Value) (X : Nat × (Nat → Int32)) : Prop := (∀ c k, ab_vok h.1.length (h.2.2.2.1 c k)) ∧ h.1.length ≤ 9000 ∧ h.2.2.2.1 9006 0 = fm ∧ h.2.2.2.2 = X ∧ ab_vok 0 fm
def ab_Ag (mc n0 : Nat) (as0 as : Nat → Nat) : Prop := ∀ c, (c < n0 ∨ 9000 ≤ c ∨ mc = 0) → as c = as0 c
def ab_Fx (M : ab_M) (d : Nat) (p : Program) (R : Room) (s : State) (m : MethodId) (args : Array Value) (meth : Method) (c : Code) (A : Nat → Prop) (D : va_G) (K : ab_K) (as0 : Nat → Nat) (mc ms : Nat) (fm : Value) (X : Nat × (Nat → Int32)) : Prop :=
  p.tables.exec = Jvm.exec ∧ c.code = ab_by M ∧ c.maxLocals = ab_nL M ∧ s.vm.findClass (ab_y M).cls = some m.cls ∧ (∀ w ∈ ab_good, w.before args s = true) ∧ (∀ w ∈ ab_nest, va_Nw w s) ∧ meth.sig.returnType = ab_ret M ∧ meth.locks = false ∧ meth.name = (ab_y M).name ∧ va_K D vwCl (ab_tys K) s ∧ (∀ q, s.heap.size ≤ q → A q) ∧ ab_St A as0 fm X s s.heap ∧ R = ab_rm d mc ms
def ab_Dy (A : Nat → Prop) (D : va_G) (K : ab_K) (as0 : Nat → Nat) (n0 mc : Nat) (fm : Value) (X : Nat × (Nat → Int32)) (s : State) (as : Nat → Nat) (H : Heap) (locs : List Loc) (h : ab_H) : Prop :=
  va_P D vwCl (ab_w K as h) H ∧ va_D A (ab_w K as h) ∧ va_S A s.heap H locs ∧ ab_wf h fm X ∧ n0 ≤ h.1.length ∧ ab_Ag mc n0 as0 as
def ab_Qc (A : Nat → Prop) (D : va_G) (K : ab_K) (as0 : Nat → Nat) (n0 mc : Nat) (fm : Value) (X : Nat × (Nat → Int32)) (Po : Option Value → ab_H → Prop) : Array Value → State → Outcome → State → Prop := fun _ st oc t =>
  (∃ (v : Option Value) (h : ab_H) (as : Nat → Nat), Po v h ∧ oc = .returned (v.map (ab_tr as)) ∧ va_P D vwCl (ab_w K as h) t.heap ∧ va_D A (ab_w K as h) ∧ ab_wf h fm X ∧ n0 ≤ h.1.length ∧ ab_Ag mc n0 as0 as) ∧ va_F A st t
def ab_Z (M : ab_M) (d : Nat) (b : Nat × Nat) (Po : Option Value → ab_H → Prop) (i : Nat) (L : ab_L) (st : List Value) (h : ab_H) : Prop :=
  ∀ (p : Program) (l : Launch) (e : Env) (R : Room) (s : State) (m : MethodId) (args : Array Value) (below : List Frame) (meth : Method) (c : Code) (A : Nat → Prop) (D : va_G) (K : ab_K) (as0 : Nat → Nat) (n0 mc ms : Nat) (fm : Value) (X : Nat × (Nat → Int32)),
    ab_Fx M d p R s m args meth c A D K as0 mc ms fm X → ∀ (as : Nat → Nat) (ls : Array Slot) (H : Heap) (locs : List Loc) (cells slots : Nat), ab_Dy A D K as0 n0 mc fm X s as H locs h → ab_LH as ls L → L.length = ab_nL M → cells + b.1 ≤ mc → slots + b.2 ≤ ms →
      W p l e R s m args below meth c H locs cells slots (MQ below (ab_Qc A D K as0 n0 mc fm X Po) args s mc ms A) (F0 m (ab_pc M i) ls (st.map (ab_tr as)))
/-- a step's soundness -/
def ab_S (M : ab_M) (i : Nat) (f : ab_F) : Prop := ∀ (d : Nat) (b : Nat × Nat) (Po : Option Value → ab_H → Prop) (L : ab_L) (st : List Value) (h : ab_H) (i' : Nat) (L' : ab_L) (st' : List Value) (h' : ab_H), f L st h = some (i', L', st', h') → ab_Z M d b Po i' L' st' h' → ab_Z M d b Po i L st h
def ab_Pre (D : va_G) (K : ab_K) (as : Nat → Nat) (h : ab_H) (sz : Nat) (fm : Value) (X : Nat × (Nat → Int32)) (U : State) : Prop :=
  U.heap.size = sz ∧ va_P D vwCl (ab_w K as h) U.heap ∧ va_K D vwCl (ab_tys K) U ∧ va_D (fun _ => True) (ab_w K as h) ∧ (∀ w ∈ ab_nest, va_Nw w U) ∧ ab_St (va_A (ab_w K as h) sz) as fm X U U.heap
/-- a method's contract -/
def ab_T (g : ab_Sg) (d : Nat) (b : Nat × Nat) (vs : List Value) (h : ab_H) (Po : Option Value → ab_H → Prop) : Prop :=
  ∀ (l : Launch) (D : va_G) (K : ab_K) (as : Nat → Nat) (sz : Nat) (fm : Value) (X : Nat × (Nat → Int32)), ab_wf h fm X →
    Met l g.1 (ab_ws g) (ab_rm d b.1 b.2) (va_Pc (vs.map (ab_tr as)) (ab_Pre D K as h sz fm X)) (ab_Qc (va_A (ab_w K as h) sz) D K as h.1.length b.1 fm X Po) b.1 b.2 (va_A (ab_w K as h) sz)
theorem ab_isN_tab {w : Cond} (h : ab_isN w = true) : w.onTables = true := by
  cases w <;> first | rfl | cases h
theorem ab_nest_warm {s U : State} (hW : s.WarmedH U.vm) (h : ∀ w ∈ ab_nest, va_Nw w s) : ∀ w ∈ ab_nest, va_Nw w U := by
  intro w hw
  have h1 := h w hw
  have h2 := (List.mem_filter.mp hw).2
  cases w <;> first | exact va_Nw.warmF hW h1 | exact va_Nw.warmM hW h1 | cases h2
theorem ab_nest_same {s U : State} (hv : s.vm = U.vm) (h : ∀ w ∈ ab_nest, va_Nw w s) : ∀ w ∈ ab_nest, va_Nw w U := fun w hw => va_Nw.same (ab_isN_tab (List.mem_filter.mp hw).2) hv (h w hw)
theorem ab_St.kept {A : Nat → Prop} {as : Nat → Nat} {fm : Value} {X : Nat × (Nat → Int32)} {U : State} {H H1 : Heap} (h : ab_St A as fm X U H) (hz : H.size ≤ H1.size) (hq : ∀ a : Nat, a < H.size → ¬ A a → H1[a]? = H[a]?) : ab_St A as fm X U H1 := by
  obtain ⟨⟨a1, a2⟩, ⟨b1, b2, b3⟩, ⟨c1, c2, c3⟩, d⟩ := h
  exact ⟨⟨a1.kept hq, a2.kept hq⟩, ⟨b1.kept (hq _ b2 b3), Nat.lt_of_lt_of_le b2 hz, b3⟩, ⟨c1.kept hq, c2.kept hq, c3.kept hq⟩, d⟩
theorem ab_St.narrow {A B : Nat → Prop} {as : Nat → Nat} {fm : Value} {X : Nat × (Nat → Int32)} {U : State} {H : Heap} (h : ab_St A as fm X U H) (hAB : ∀ q, B q → A q) : ab_St B as fm X U H := by
  obtain ⟨⟨a1, a2⟩, ⟨b1, b2, b3⟩, ⟨c1, c2, c3⟩, d⟩ := h
  exact ⟨⟨a1.narrow hAB, a2.narrow hAB⟩, ⟨b1, b2, fun z => b3 (hAB _ z)⟩, ⟨c1.narrow hAB, c2.narrow hAB, c3.narrow hAB⟩, d⟩
theorem ab_St.warm {A : Nat → Prop} {as : Nat → Nat} {fm : Value} {X : Nat × (Nat → Int32)} {s U : State} {H : Heap} (hW : s.WarmedH U.vm) (h : ab_St A as fm X s H) : ab_St A as fm X U H := by
  obtain ⟨⟨a1, a2⟩, ⟨b1, b2, b3⟩, ⟨c1, c2, c3⟩, d1, d2⟩ := h
  exact ⟨⟨va_Z.moved hW.alike a1, va_T.moved hW.alike a2⟩, ⟨va_X.moved hW.alike b1, b2, b3⟩, ⟨vk_S.moved hW.alike c1, va_Z.moved hW.alike c2, va_Z.moved hW.alike c3⟩, vk_R.warm hW d1, vk_R.warm hW d2⟩
theorem ab_St.same {A : Nat → Prop} {as : Nat → Nat} {fm : Value} {X : Nat × (Nat → Int32)} {s U : State} {H : Heap} (hv : U.vm = s.vm) (h : ab_St A as fm X s H) : ab_St A as fm X U H := by
  have hW : s.vm.Alike U.vm := by rw [hv]; exact Vm.Alike.refl _
  obtain ⟨⟨a1, a2⟩, ⟨b1, b2, b3⟩, ⟨c1, c2, c3⟩, d1, d2⟩ := h
  exact ⟨⟨va_Z.moved hW a1, va_T.moved hW a2⟩, ⟨va_X.moved hW b1, b2, b3⟩, ⟨vk_S.moved hW c1, va_Z.moved hW c2, va_Z.moved hW c3⟩, vk_R.same hv d1, vk_R.same hv d2⟩
theorem ab_tr_ag {mc n0 n : Nat} {as0 as : Nat → Nat} (h : ab_Ag mc n0 as0 as) {v : Value} (hv : mc = 0 ∨ ab_vok n0 v) : ab_tr as v = ab_tr as0 v := by
  cases v <;> first | rfl | skip
  rename_i a
  show Value.ref (as a) = Value.ref (as0 a)
  rw [h a]
  rcases hv with h1 | h1 | h1
  · exact Or.inr (Or.inr h1)
  · exact Or.inl h1
  · exact Or.inr (Or.inl h1)
theorem ab_St.ag {A : Nat → Prop} {as0 as : Nat → Nat} {mc n0 : Nat} {fm : Value} {X : Nat × (Nat → Int32)} {U : State} {H : Heap} (hfm : ab_vok 0 fm) (h : ab_St A as0 fm X U H) (g : ab_Ag mc n0 as0 as) : ab_St A as fm X U H := by
  have e : ∀ c, 9000 ≤ c → as c = as0 c := fun c hc => g c (Or.inr (Or.inl hc))
  obtain ⟨⟨a1, a2⟩, ⟨b1, b2, b3⟩, ⟨c1, c2, c3⟩, d1, d2⟩ := h
  have e1 : (fun i => as (9002 + i)) = fun i => as0 (9002 + i) := funext fun i => e _ (by omega)
  have e2 : (fun i => as (9004 + i)) = fun i => as0 (9004 + i) := funext fun i => e _ (by omega)
  unfold ab_St
  rw [e 9000 (by omega), e 9001 (by omega), e 9002 (by omega), e 9003 (by omega), e1, e2, ab_tr_ag (n := 0) g (Or.inr (ab_vok_le (Nat.zero_le _) hfm))]
  exact ⟨⟨a1, a2⟩, ⟨b1, b2, b3⟩, ⟨c1, c2, c3⟩, d1, d2⟩
/-! the rules -/
theorem ab_Z.mask {M : ab_M} {d : Nat} {b : Nat × Nat} {Po : Option Value → ab_H → Prop} {i : Nat} {L : ab_L} {st : List Value} {h : ab_H} (k : ab_Z M d b Po i (ab_mk M i L) st h) : ab_Z M d b Po i L st h := by
  intro p l e R s m args below meth c A D K as0 n0 mc ms fm X F as ls H locs cells slots Y hL hn hc hs
  unfold ab_mk at k
  split at k
  · exact k p l e R s m args below meth c A D K as0 n0 mc ms fm X F as ls H locs cells slots Y hL hn hc hs
  · exact k p l e R s m args below meth c A D K as0 n0 mc ms fm X F as ls H locs cells slots Y (hL.mask _) (by rw [ab_mask_len]; exact hn) hc hs
/-- what the words of a call's entry must say: kinds 0 virtual, 1 static, 2 a constructor; 3, 4, 5 the same through a nest mate -/
def ab_Lk (own : String) (by_ : ByteArray) (pc : Nat) (kd : Nat) (g : ab_Sg) (na : Nat) : Prop :=
  Cond.code g.1 g.2.1 g.2.2.1 g.2.2.2 ∈ ab_good ∧ Cond.initialized g.1.cls ∈ ab_good ∧ (g.1.cls ≠ "java/lang/invoke/MethodHandle" ∧ g.1.cls ≠ "java/lang/invoke/VarHandle" ∧ (parseMethodDescriptor g.1.desc).map (fun d => d.parameters.length) = some na) ∧ g.2.2.1 ≤ 80 ∧
  match kd with
  | 0 => ∃ ix, decode by_ pc = .ok (.invokevirtual ix, 3) ∧ Cond.methodLink own ix g.1 ∈ ab_good ∧ Cond.instanceMethod g.1 ∈ ab_good ∧ Cond.selects g.1.cls g.1 g.1 ∈ ab_good
  | 1 => ∃ ix, decode by_ pc = .ok (.invokestatic ix, 3) ∧ Cond.methodLink own ix g.1 ∈ ab_good ∧ Cond.static g.1 ∈ ab_good
  | 2 => ∃ ix, decode by_ pc = .ok (.invokespecial ix, 3) ∧ Cond.methodLink own ix g.1 ∈ ab_good ∧ Cond.instanceMethod g.1 ∈ ab_good ∧ g.1.name = "<init>" ∧ g.2.2.2 = none
  | 3 => ∃ ix host, decode by_ pc = .ok (.invokevirtual ix, 3) ∧ Cond.methodLinkNest own ix g.1 host ∈ ab_nest ∧ Cond.instanceMethod g.1 ∈ ab_good ∧ Cond.selects g.1.cls g.1 g.1 ∈ ab_good
  | 4 => ∃ ix host, decode by_ pc = .ok (.invokestatic ix, 3) ∧ Cond.methodLinkNest own ix g.1 host ∈ ab_nest ∧ Cond.static g.1 ∈ ab_good
  | 5 => ∃ ix host, decode by_ pc = .ok (.invokespecial ix, 3) ∧ Cond.methodLinkNest own ix g.1 host ∈ ab_nest ∧ Cond.instanceMethod g.1 ∈ ab_good ∧ g.1.name = "<init>" ∧ g.2.2.2 = none
  | _ => False
