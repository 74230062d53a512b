/-! making: rules; heaps that no place of the world tells apart -/
theorem ar_I : Cond.arrayClass .int ∈ ab_good := by decide +kernel
theorem ar_B : Cond.arrayClass .byte ∈ ab_good := by decide +kernel
theorem ar_Z : Cond.arrayClass .boolean ∈ ab_good := by decide +kernel
theorem ar_L : Cond.arrayClass .long ∈ ab_good := by decide +kernel
def ab_okl (n : Nat) (L : ab_L) : Bool := L.all fun o => match o with
  | some v => ab_vokb n v
  | none => true
def ab_oks (n : Nat) (st : List Value) : Bool := st.all (ab_vokb n)
theorem ab_okl_e {n : Nat} {L : ab_L} (h : ab_okl n L = true) : ∀ v, some v ∈ L → ab_vok n v := fun v hv => ab_vok_b (List.all_eq_true.mp h (some v) hv)
theorem ab_oks_e {n : Nat} {st : List Value} (h : ab_oks n st = true) : ∀ v ∈ st, ab_vok n v := fun v hv => ab_vok_b (List.all_eq_true.mp h v hv)
section
variable {M : ab_M} {d : Nat} {b b' : Nat × Nat} {Po Po' : Option Value → ab_H → Prop} {i nx : Nat} {L : ab_L} {st : List Value} {sh : List (Nat × Nat)} {sg : Nat → Nat → Int32} {ta : Nat → Nat → Int64} {ro : Nat → Nat → Value} {xx : Nat × (Nat → Int32)}
theorem ab_nw (ok : ab_ok M 0 (ab_cd M)) {ci N n : Nat} (hA : (ab_cd M)[i]? = some (.inr (.inr (.inr (ci + 10, N, nx))))) (hn : sh.length = n) (hb : b = (b'.1 + 1, b'.2 + N)) (hlt : n < 9000) (hvL : ab_okl n L = true) (hvs : ab_oks n st = true) (k : ab_Z M d b' Po nx (ab_mk M nx L) (.ref n :: st) (sh ++ [(ci + 10, N)], ab_ro sg n (fun _ => 0), ab_ro ta n (fun _ => 0), ab_ro ro n (fun _ => .null), xx)) : ab_Z M d b Po i L st (sh, sg, ta, ro, xx) := by
  subst hn hb
  exact ab_new (h := (sh, sg, ta, ro, xx)) (ab_okat ok hA).1 (ab_okat ok hA).2 hlt (ab_okl_e hvL) (ab_oks_e hvs) (ab_Z.mask k)
theorem ab_nwI (ok : ab_ok M 0 (ab_cd M)) {N n : Nat} {x : Int32} {z : Nat} (hA : (ab_cd M)[i]? = some (.inr (.inr (.inr (0, z, nx))))) (hx : x = nI N) (hN : N ≤ 100000) (hn : sh.length = n) (hb : b = (b'.1 + 1, b'.2 + N)) (hlt : n < 9000) (hvL : ab_okl n L = true) (hvs : ab_oks n st = true) (k : ab_Z M d b' Po nx (ab_mk M nx L) (.ref n :: st) (sh ++ [(0, N)], ab_ro sg n (fun _ => 0), ab_ro ta n (fun _ => 0), ab_ro ro n (fun _ => .null), xx)) : ab_Z M d b Po i L (.int x :: st) (sh, sg, ta, ro, xx) := by
  subst hn hb hx
  have h0 : (0 : Int32).toInt = 0 := rfl
  exact ab_newa0 (h := (sh, sg, ta, ro, xx)) (ab_okat ok hA).1 ar_I (ab_okat ok hA).2 (fun z => by have := i_lt z; rw [nI_t (by omega)] at this; omega) (nI_c (by omega)) (by omega) hlt (ab_okl_e hvL) (ab_oks_e hvs) (ab_Z.mask k)
theorem ab_nwB (ok : ab_ok M 0 (ab_cd M)) {N n : Nat} {x : Int32} {z : Nat} (hA : (ab_cd M)[i]? = some (.inr (.inr (.inr (1, z, nx))))) (hx : x = nI N) (hN : N ≤ 100000) (hn : sh.length = n) (hb : b = (b'.1 + 1, b'.2 + N)) (hlt : n < 9000) (hvL : ab_okl n L = true) (hvs : ab_oks n st = true) (k : ab_Z M d b' Po nx (ab_mk M nx L) (.ref n :: st) (sh ++ [(1, N)], ab_ro sg n (fun _ => 0), ab_ro ta n (fun _ => 0), ab_ro ro n (fun _ => .null), xx)) : ab_Z M d b Po i L (.int x :: st) (sh, sg, ta, ro, xx) := by
  subst hn hb hx
  have h0 : (0 : Int32).toInt = 0 := rfl
  exact ab_newa1 (h := (sh, sg, ta, ro, xx)) (ab_okat ok hA).1 ar_B (ab_okat ok hA).2 (fun z => by have := i_lt z; rw [nI_t (by omega)] at this; omega) (nI_c (by omega)) (by omega) hlt (ab_okl_e hvL) (ab_oks_e hvs) (ab_Z.mask k)
theorem ab_nwZ (ok : ab_ok M 0 (ab_cd M)) {N n : Nat} {x : Int32} {z : Nat} (hA : (ab_cd M)[i]? = some (.inr (.inr (.inr (2, z, nx))))) (hx : x = nI N) (hN : N ≤ 100000) (hn : sh.length = n) (hb : b = (b'.1 + 1, b'.2 + N)) (hlt : n < 9000) (hvL : ab_okl n L = true) (hvs : ab_oks n st = true) (k : ab_Z M d b' Po nx (ab_mk M nx L) (.ref n :: st) (sh ++ [(2, N)], ab_ro sg n (fun _ => 0), ab_ro ta n (fun _ => 0), ab_ro ro n (fun _ => .null), xx)) : ab_Z M d b Po i L (.int x :: st) (sh, sg, ta, ro, xx) := by
  subst hn hb hx
  have h0 : (0 : Int32).toInt = 0 := rfl
  exact ab_newa2 (h := (sh, sg, ta, ro, xx)) (ab_okat ok hA).1 ar_Z (ab_okat ok hA).2 (fun z => by have := i_lt z; rw [nI_t (by omega)] at this; omega) (nI_c (by omega)) (by omega) hlt (ab_okl_e hvL) (ab_oks_e hvs) (ab_Z.mask k)
theorem ab_nwL (ok : ab_ok M 0 (ab_cd M)) {N n : Nat} {x : Int32} {z : Nat} (hA : (ab_cd M)[i]? = some (.inr (.inr (.inr (3, z, nx))))) (hx : x = nI N) (hN : N ≤ 100000) (hn : sh.length = n) (hb : b = (b'.1 + 1, b'.2 + N)) (hlt : n < 9000) (hvL : ab_okl n L = true) (hvs : ab_oks n st = true) (k : ab_Z M d b' Po nx (ab_mk M nx L) (.ref n :: st) (sh ++ [(3, N)], ab_ro sg n (fun _ => 0), ab_ro ta n (fun _ => 0), ab_ro ro n (fun _ => .null), xx)) : ab_Z M d b Po i L (.int x :: st) (sh, sg, ta, ro, xx) := by
  subst hn hb hx
  have h0 : (0 : Int32).toInt = 0 := rfl
  exact ab_newa3 (h := (sh, sg, ta, ro, xx)) (ab_okat ok hA).1 ar_L (ab_okat ok hA).2 (fun z => by have := i_lt z; rw [nI_t (by omega)] at this; omega) (nI_c (by omega)) (by omega) hlt (ab_okl_e hvL) (ab_oks_e hvs) (ab_Z.mask k)
/-- a call that may make -/
theorem ab_clm (ok : ab_ok M 0 (ab_cd M)) {h : ab_H} {kd na n : Nat} {g : ab_Sg} {c : Nat × Nat} (hA : (ab_cd M)[i]? = some (.inr (.inr (.inl (kd, g, na, nx))))) (vs rest : List Value) (hst : st = vs.reverse ++ rest) (hvs : if ab_cs kd then vs.length = na else ∃ a vs', vs = .ref a :: vs' ∧ vs'.length = na ∧ ab_Rv h a g.1.cls) (hsum : ab_sum rest ≤ 8) (hn : h.1.length = n) (hvL : ab_okl n L = true) (hvr : ab_oks n rest = true) (hb : b = (b'.1 + c.1, b'.2 + c.2)) (hT : ab_T g d c vs h Po') (k : ∀ v h', Po' v h' → ab_Z M (d + 1) b' Po nx (ab_mk M nx L) (v.toList ++ rest) h') : ab_Z M (d + 1) b Po i L st h := by
  subst hst hb hn
  exact ab_call (b := b') (b' := c) (ab_okat ok hA).1 (ab_okat ok hA).2 hvs hsum (Or.inr ⟨ab_okl_e hvL, ab_oks_e hvr⟩) hT (fun v h' hp => ab_Z.mask (k v h' hp))
theorem ab_Z_eq {h h' : ab_H} (hw : ∀ K as, ab_w K as h = ab_w K as h') (hl : h.1 = h'.1) (hf : ∀ fm X, ab_wf h fm X → ab_wf h' fm X) (k : ab_Z M d b Po i L st h') : ab_Z M d b Po i L st h := by
  intro p l e R s m args below meth c A D K as0 n0 mc ms fm X F as ls H locs cells slots Y hL hn hc hs
  obtain ⟨y1, y2, y3, y4, y5, y6⟩ := Y
  exact k p l e R s m args below meth c A D K as0 n0 mc ms fm X F as ls H locs cells slots ⟨by rw [← hw]; exact y1, by rw [← hw]; exact y2, y3, hf fm X y4, by rw [← hl]; exact y5, y6⟩ hL hn hc hs
end

