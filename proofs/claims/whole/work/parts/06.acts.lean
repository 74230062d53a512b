/-! ends -/
theorem ab_retI {M : ab_M} {d : Nat} {b : Nat × Nat} {Po : Option Value → ab_H → Prop} {i : Nat} {L : ab_L} {h : ab_H} {v : Int32} (hd : decode (ab_by M) (ab_pc M i) = .ok (.ireturn, 1)) (hr : ab_ret M = some .int) (hp : Po (some (.int v)) h) : ab_Z M d b Po i L [.int v] h := by
  intro p l e R s m args below meth c A D K as0 n0 mc ms fm X F as ls H locs cells slots Y hL hn hc hs
  obtain ⟨fx, fb, fml, fown, fts, fN, fret, flk, fnm, fK, fA, fSt, fR⟩ := F
  obtain ⟨hP, hD, hS, hwf, hn0, hAg⟩ := Y
  refine W.widen (k := mc) (n := ms) (by omega) (by omega) ?_
  exact W.iret (v := v) fx fb (fret.trans hr) (fun t ht hW => ⟨⟨some (.int v), h, as, hp, rfl, by rw [ht]; exact hP, hD, hwf, hn0, hAg⟩, hS.F ht⟩) hS.2.2 hd
theorem ab_retZ {M : ab_M} {d : Nat} {b : Nat × Nat} {Po : Option Value → ab_H → Prop} {i : Nat} {L : ab_L} {h : ab_H} {v : Int32} {ty : FieldType} (hd : decode (ab_by M) (ab_pc M i) = .ok (.ireturn, 1)) (hr : ab_ret M = some ty) (hnr : narrow ty (.int v) = .int v) (hp : Po (some (.int v)) h) : ab_Z M d b Po i L [.int v] h := by
  intro p l e R s m args below meth c A D K as0 n0 mc ms fm X F as ls H locs cells slots Y hL hn hc hs
  obtain ⟨fx, fb, fml, fown, fts, fN, fret, flk, fnm, fK, fA, fSt, fR⟩ := F
  obtain ⟨hP, hD, hS, hwf, hn0, hAg⟩ := Y
  refine W.widen (k := mc) (n := ms) (by omega) (by omega) ?_
  exact W.zret (v := v) fx fb (fret.trans hr) hnr (fun t ht hW => ⟨⟨some (.int v), h, as, hp, rfl, by rw [ht]; exact hP, hD, hwf, hn0, hAg⟩, hS.F ht⟩) hS.2.2 hd
theorem ab_retL {M : ab_M} {d : Nat} {b : Nat × Nat} {Po : Option Value → ab_H → Prop} {i : Nat} {L : ab_L} {h : ab_H} {v : Int64} (hd : decode (ab_by M) (ab_pc M i) = .ok (.lreturn, 1)) (hr : ab_ret M = some .long) (hp : Po (some (.long v)) h) : ab_Z M d b Po i L [.long v] h := by
  intro p l e R s m args below meth c A D K as0 n0 mc ms fm X F as ls H locs cells slots Y hL hn hc hs
  obtain ⟨fx, fb, fml, fown, fts, fN, fret, flk, fnm, fK, fA, fSt, fR⟩ := F
  obtain ⟨hP, hD, hS, hwf, hn0, hAg⟩ := Y
  refine W.widen (k := mc) (n := ms) (by omega) (by omega) ?_
  exact W.lret (v := v) fx fb (fret.trans hr) (fun t ht hW => ⟨⟨some (.long v), h, as, hp, rfl, by rw [ht]; exact hP, hD, hwf, hn0, hAg⟩, hS.F ht⟩) hS.2.2 hd
theorem ab_retV {M : ab_M} {d : Nat} {b : Nat × Nat} {Po : Option Value → ab_H → Prop} {i : Nat} {L : ab_L} {h : ab_H} (hd : decode (ab_by M) (ab_pc M i) = .ok (.return_, 1)) (hr : ab_ret M = none) (hp : Po none h) : ab_Z M d b Po i L [] h := by
  intro p l e R s m args below meth c A D K as0 n0 mc ms fm X F as ls H locs cells slots Y hL hn hc hs
  obtain ⟨fx, fb, fml, fown, fts, fN, fret, flk, fnm, fK, fA, fSt, fR⟩ := F
  obtain ⟨hP, hD, hS, hwf, hn0, hAg⟩ := Y
  refine W.widen (k := mc) (n := ms) (by omega) (by omega) ?_
  exact W.vret fx fb (fret.trans hr) (fun t ht hW => ⟨⟨none, h, as, hp, rfl, by rw [ht]; exact hP, hD, hwf, hn0, hAg⟩, hS.F ht⟩) hS.2.2 hd
theorem ab_retA {M : ab_M} {d : Nat} {b : Nat × Nat} {Po : Option Value → ab_H → Prop} {i : Nat} {L : ab_L} {h : ab_H} {a : Nat} {cl : String} (hd : decode (ab_by M) (ab_pc M i) = .ok (.areturn, 1)) (hr : ab_ret M = some (.object cl)) (hp : Po (some (.ref a)) h) : ab_Z M d b Po i L [.ref a] h := by
  intro p l e R s m args below meth c A D K as0 n0 mc ms fm X F as ls H locs cells slots Y hL hn hc hs
  obtain ⟨fx, fb, fml, fown, fts, fN, fret, flk, fnm, fK, fA, fSt, fR⟩ := F
  obtain ⟨hP, hD, hS, hwf, hn0, hAg⟩ := Y
  refine W.widen (k := mc) (n := ms) (by omega) (by omega) ?_
  exact W.aret (v := .ref (as a)) fx fb (fret.trans hr) (Or.inl ⟨_, rfl⟩) (Or.inr ⟨_, rfl⟩) (fun t ht hW => ⟨⟨some (.ref a), h, as, hp, rfl, by rw [ht]; exact hP, hD, hwf, hn0, hAg⟩, hS.F ht⟩) hS.2.2 hd
/-! constants -/
def aC (v : Value) (nx : Nat) : ab_F := fun L st h => some (nx, L, v :: st, h)
theorem s_iconst {M : ab_M} {i nx : Nat} {n : Int} {v : Int32} (hd : decode (ab_by M) (ab_pc M i) = .ok (.iconst n, 1)) (hv : Int32.ofInt n = v) (hp : ab_pc M nx = ab_pc M i + 1) : ab_S M i (aC (.int v) nx) := by
  intro d b Po L st h i' L' st' h' hf k p l e R s m args below meth c A D K as0 n0 mc ms fm X F as ls H locs cells slots Y hL hn hc hs
  cases hf
  have k' := k p l e R s m args below meth c A D K as0 n0 mc ms fm X F as ls H locs cells slots Y hL hn hc hs
  rw [hp] at k'
  exact lv_iconst F.1 F.2.1 hd hv k'
theorem s_bipush {M : ab_M} {i nx : Nat} {n : Int} {v : Int32} (hd : decode (ab_by M) (ab_pc M i) = .ok (.bipush n, 2)) (hv : (Int8.ofInt n).toInt32 = v) (hp : ab_pc M nx = ab_pc M i + 2) : ab_S M i (aC (.int v) nx) := by
  intro d b Po L st h i' L' st' h' hf k p l e R s m args below meth c A D K as0 n0 mc ms fm X F as ls H locs cells slots Y hL hn hc hs
  cases hf
  have k' := k p l e R s m args below meth c A D K as0 n0 mc ms fm X F as ls H locs cells slots Y hL hn hc hs
  rw [hp] at k'
  exact lv_bipush F.1 F.2.1 hd hv k'
theorem s_sipush {M : ab_M} {i nx : Nat} {n : Int} {v : Int32} (hd : decode (ab_by M) (ab_pc M i) = .ok (.sipush n, 3)) (hv : (Int16.ofInt n).toInt32 = v) (hp : ab_pc M nx = ab_pc M i + 3) : ab_S M i (aC (.int v) nx) := by
  intro d b Po L st h i' L' st' h' hf k p l e R s m args below meth c A D K as0 n0 mc ms fm X F as ls H locs cells slots Y hL hn hc hs
  cases hf
  have k' := k p l e R s m args below meth c A D K as0 n0 mc ms fm X F as ls H locs cells slots Y hL hn hc hs
  rw [hp] at k'
  exact lv_sipush F.1 F.2.1 hd hv k'
theorem s_lconst {M : ab_M} {i nx : Nat} {n : Fin 2} {v : Int64} (hd : decode (ab_by M) (ab_pc M i) = .ok (.lconst n, 1)) (hv : Int64.ofNat (n : Nat) = v) (hp : ab_pc M nx = ab_pc M i + 1) : ab_S M i (aC (.long v) nx) := by
  intro d b Po L st h i' L' st' h' hf k p l e R s m args below meth c A D K as0 n0 mc ms fm X F as ls H locs cells slots Y hL hn hc hs
  cases hf
  have k' := k p l e R s m args below meth c A D K as0 n0 mc ms fm X F as ls H locs cells slots Y hL hn hc hs
  rw [hp] at k'
  exact lv_lconst F.1 F.2.1 hd hv k'
theorem s_ldc {M : ab_M} {i nx : Nat} {n : Nat} {v : Int32} (hd : decode (ab_by M) (ab_pc M i) = .ok (.ldc n, 2)) (hw : Cond.constant (ab_y M).cls n v ∈ ab_good) (hp : ab_pc M nx = ab_pc M i + 2) : ab_S M i (aC (.int v) nx) := by
  intro d b Po L st h i' L' st' h' hf k p l e R s m args below meth c A D K as0 n0 mc ms fm X F as ls H locs cells slots Y hL hn hc hs
  cases hf
  have k' := k p l e R s m args below meth c A D K as0 n0 mc ms fm X F as ls H locs cells slots Y hL hn hc hs
  rw [hp] at k'
  exact lv_ldc F.1 F.2.1 F.2.2.2.1 (F.2.2.2.2.1 _ hw) hd k'
theorem s_ldcw {M : ab_M} {i nx : Nat} {n : Nat} {v : Int32} (hd : decode (ab_by M) (ab_pc M i) = .ok (.ldc_w n, 3)) (hw : Cond.constant (ab_y M).cls n v ∈ ab_good) (hp : ab_pc M nx = ab_pc M i + 3) : ab_S M i (aC (.int v) nx) := by
  intro d b Po L st h i' L' st' h' hf k p l e R s m args below meth c A D K as0 n0 mc ms fm X F as ls H locs cells slots Y hL hn hc hs
  cases hf
  have k' := k p l e R s m args below meth c A D K as0 n0 mc ms fm X F as ls H locs cells slots Y hL hn hc hs
  rw [hp] at k'
  exact lv_ldcw F.1 F.2.1 F.2.2.2.1 (F.2.2.2.2.1 _ hw) hd k'
theorem s_ldc2 {M : ab_M} {i nx : Nat} {n : Nat} {v : Int64} (hd : decode (ab_by M) (ab_pc M i) = .ok (.ldc2_w n, 3)) (hw : Cond.constantLong (ab_y M).cls n v ∈ ab_good) (hp : ab_pc M nx = ab_pc M i + 3) : ab_S M i (aC (.long v) nx) := by
  intro d b Po L st h i' L' st' h' hf k p l e R s m args below meth c A D K as0 n0 mc ms fm X F as ls H locs cells slots Y hL hn hc hs
  cases hf
  have k' := k p l e R s m args below meth c A D K as0 n0 mc ms fm X F as ls H locs cells slots Y hL hn hc hs
  rw [hp] at k'
  exact lv_ldc2 F.1 F.2.1 F.2.2.2.1 (F.2.2.2.2.1 _ hw) hd k'
theorem s_getW {M : ab_M} {i nx : Nat} {n : Nat} (hd : decode (ab_by M) (ab_pc M i) = .ok (.getstatic n, 3)) (hw : Cond.fieldLink (ab_y M).cls n "SealFaces$Plan" "WEIGHTS" "[I" ∈ ab_good) (hp : ab_pc M nx = ab_pc M i + 3) : ab_S M i (aC (.ref 9000) nx) := by
  intro d b Po L st h i' L' st' h' hf k p l e R s m args below meth c A D K as0 n0 mc ms fm X F as ls H locs cells slots Y hL hn hc hs
  cases hf
  have k' := k p l e R s m args below meth c A D K as0 n0 mc ms fm X F as ls H locs cells slots Y hL hn hc hs
  rw [hp] at k'
  have e9 : ∀ c, 9000 ≤ c → as c = as0 c := fun c hc => Y.2.2.2.2.2 c (Or.inr (Or.inl hc))
  obtain ⟨fx, fb, fml, fown, fts, fN, fret, flk, fnm, fK, fA, fSt, fR⟩ := F
  refine va_gets (C := "SealFaces$Plan") (ref := "SealFaces$Plan") fx fb (v := .ref (as0 9000)) fSt.1.1 Y.2.2.1 fown (fts _ hw) (fun _ h9 => h9) hd ?_
  rw [← e9 9000 (Nat.le_refl _)]
  exact k'
theorem s_ldcW {M : ab_M} {i nx : Nat} {n : Nat} (hd : decode (ab_by M) (ab_pc M i) = .ok (.ldc n, 2)) (hn9 : n = 29 ∧ (ab_y M).cls = "SealFaces$Tokens") (hp : ab_pc M nx = ab_pc M i + 2) : ab_S M i (aC (.ref 9002) nx) := by
  intro d b Po L st h i' L' st' h' hf k p l e R s m args below meth c A D K as0 n0 mc ms fm X F as ls H locs cells slots Y hL hn hc hs
  cases hf
  have k' := k p l e R s m args below meth c A D K as0 n0 mc ms fm X F as ls H locs cells slots Y hL hn hc hs
  rw [hp] at k'
  have e9 : ∀ c, 9000 ≤ c → as c = as0 c := fun c hc => Y.2.2.2.2.2 c (Or.inr (Or.inl hc))
  obtain ⟨fx, fb, fml, fown, fts, fN, fret, flk, fnm, fK, fA, fSt, fR⟩ := F
  obtain ⟨rfl, e⟩ := hn9
  have d1 := fSt.2.2.2.1
  rw [← e9 9002 (by omega), ← e] at d1
  exact va_ldcS fx fb fown d1 hd k'
theorem s_ldcG {M : ab_M} {i nx : Nat} {n : Nat} (hd : decode (ab_by M) (ab_pc M i) = .ok (.ldc n, 2)) (hn9 : n = 82 ∧ (ab_y M).cls = "SealFaces$Tokens") (hp : ab_pc M nx = ab_pc M i + 2) : ab_S M i (aC (.ref 9003) nx) := by
  intro d b Po L st h i' L' st' h' hf k p l e R s m args below meth c A D K as0 n0 mc ms fm X F as ls H locs cells slots Y hL hn hc hs
  cases hf
  have k' := k p l e R s m args below meth c A D K as0 n0 mc ms fm X F as ls H locs cells slots Y hL hn hc hs
  rw [hp] at k'
  have e9 : ∀ c, 9000 ≤ c → as c = as0 c := fun c hc => Y.2.2.2.2.2 c (Or.inr (Or.inl hc))
  obtain ⟨fx, fb, fml, fown, fts, fN, fret, flk, fnm, fK, fA, fSt, fR⟩ := F
  obtain ⟨rfl, e⟩ := hn9
  have d1 := fSt.2.2.2.2
  rw [← e9 9003 (by omega), ← e] at d1
  exact va_ldcS fx fb fown d1 hd k'
theorem s_getCS {M : ab_M} {i nx : Nat} {n : Nat} (hd : decode (ab_by M) (ab_pc M i) = .ok (.getstatic n, 3)) (hw : Cond.fieldLink (ab_y M).cls n "java/lang/String" "COMPACT_STRINGS" "Z" ∈ ab_good) (hp : ab_pc M nx = ab_pc M i + 3) : ab_S M i (aC (.int 1) nx) := by
  intro d b Po L st h i' L' st' h' hf k p l e R s m args below meth c A D K as0 n0 mc ms fm X F as ls H locs cells slots Y hL hn hc hs
  cases hf
  have k' := k p l e R s m args below meth c A D K as0 n0 mc ms fm X F as ls H locs cells slots Y hL hn hc hs
  rw [hp] at k'
  have e9 : ∀ c, 9000 ≤ c → as c = as0 c := fun c hc => Y.2.2.2.2.2 c (Or.inr (Or.inl hc))
  obtain ⟨fx, fb, fml, fown, fts, fN, fret, flk, fnm, fK, fA, fSt, fR⟩ := F
  exact va_gets (C := "java/lang/String") (ref := "java/lang/String") fx fb (v := .int 1) fSt.2.2.1.2.1 Y.2.2.1 fown (fts _ hw) (fun _ h9 => h9) hd k'
/-! locals -/
def aLdI (j nx : Nat) : ab_F := fun L st h => match L[j]? with
  | some (some (.int x)) => some (nx, L, .int x :: st, h)
  | _ => none
theorem s_iload_n {M : ab_M} {i nx : Nat} {j : Nat} {q : Fin 4} (hd : decode (ab_by M) (ab_pc M i) = .ok (.iload_n q, 1)) (hq : (q : Nat) = j) (hp : ab_pc M nx = ab_pc M i + 1) : ab_S M i (aLdI j nx) := by
  intro d b Po L st h i' L' st' h' hf k p l e R s m args below meth c A D K as0 n0 mc ms fm X F as ls H locs cells slots Y hL hn hc hs
  unfold aLdI at hf
  split at hf
  · rename_i x hx
    cases hf
    have k' := k p l e R s m args below meth c A D K as0 n0 mc ms fm X F as ls H locs cells slots Y hL hn hc hs
    rw [hp] at k'
    exact lv_iload_n F.1 F.2.1 hd hq (hL.2.2 _ _ hx) k'
  · cases hf
theorem s_iload {M : ab_M} {i nx : Nat} {j : Nat} (hd : decode (ab_by M) (ab_pc M i) = .ok (.iload j, 2)) (hp : ab_pc M nx = ab_pc M i + 2) : ab_S M i (aLdI j nx) := by
  intro d b Po L st h i' L' st' h' hf k p l e R s m args below meth c A D K as0 n0 mc ms fm X F as ls H locs cells slots Y hL hn hc hs
  unfold aLdI at hf
  split at hf
  · rename_i x hx
    cases hf
    have k' := k p l e R s m args below meth c A D K as0 n0 mc ms fm X F as ls H locs cells slots Y hL hn hc hs
    rw [hp] at k'
    exact lv_iload F.1 F.2.1 hd (hL.2.2 _ _ hx) k'
  · cases hf
def aLdL (j nx : Nat) : ab_F := fun L st h => match L[j]? with
  | some (some (.long x)) => some (nx, L, .long x :: st, h)
  | _ => none
theorem s_lload_n {M : ab_M} {i nx : Nat} {j : Nat} {q : Fin 4} (hd : decode (ab_by M) (ab_pc M i) = .ok (.lload_n q, 1)) (hq : (q : Nat) = j) (hp : ab_pc M nx = ab_pc M i + 1) : ab_S M i (aLdL j nx) := by
  intro d b Po L st h i' L' st' h' hf k p l e R s m args below meth c A D K as0 n0 mc ms fm X F as ls H locs cells slots Y hL hn hc hs
  unfold aLdL at hf
  split at hf
  · rename_i x hx
    cases hf
    have k' := k p l e R s m args below meth c A D K as0 n0 mc ms fm X F as ls H locs cells slots Y hL hn hc hs
    rw [hp] at k'
    exact lv_lload_n F.1 F.2.1 hd hq (hL.2.2 _ _ hx) k'
  · cases hf
theorem s_lload {M : ab_M} {i nx : Nat} {j : Nat} (hd : decode (ab_by M) (ab_pc M i) = .ok (.lload j, 2)) (hp : ab_pc M nx = ab_pc M i + 2) : ab_S M i (aLdL j nx) := by
  intro d b Po L st h i' L' st' h' hf k p l e R s m args below meth c A D K as0 n0 mc ms fm X F as ls H locs cells slots Y hL hn hc hs
  unfold aLdL at hf
  split at hf
  · rename_i x hx
    cases hf
    have k' := k p l e R s m args below meth c A D K as0 n0 mc ms fm X F as ls H locs cells slots Y hL hn hc hs
    rw [hp] at k'
    exact lv_lload F.1 F.2.1 hd (hL.2.2 _ _ hx) k'
  · cases hf
def aLdA (j nx : Nat) : ab_F := fun L st h => match L[j]? with
  | some (some (.ref x)) => some (nx, L, .ref x :: st, h)
  | _ => none
theorem s_aload_n {M : ab_M} {i nx : Nat} {j : Nat} {q : Fin 4} (hd : decode (ab_by M) (ab_pc M i) = .ok (.aload_n q, 1)) (hq : (q : Nat) = j) (hp : ab_pc M nx = ab_pc M i + 1) : ab_S M i (aLdA j nx) := by
  intro d b Po L st h i' L' st' h' hf k p l e R s m args below meth c A D K as0 n0 mc ms fm X F as ls H locs cells slots Y hL hn hc hs
  unfold aLdA at hf
  split at hf
  · rename_i x hx
    cases hf
    have k' := k p l e R s m args below meth c A D K as0 n0 mc ms fm X F as ls H locs cells slots Y hL hn hc hs
    rw [hp] at k'
    exact lv_aload_n F.1 F.2.1 hd hq (hL.2.2 _ _ hx) k'
  · cases hf
theorem s_aload {M : ab_M} {i nx : Nat} {j : Nat} (hd : decode (ab_by M) (ab_pc M i) = .ok (.aload j, 2)) (hp : ab_pc M nx = ab_pc M i + 2) : ab_S M i (aLdA j nx) := by
  intro d b Po L st h i' L' st' h' hf k p l e R s m args below meth c A D K as0 n0 mc ms fm X F as ls H locs cells slots Y hL hn hc hs
  unfold aLdA at hf
  split at hf
  · rename_i x hx
    cases hf
    have k' := k p l e R s m args below meth c A D K as0 n0 mc ms fm X F as ls H locs cells slots Y hL hn hc hs
    rw [hp] at k'
    exact lv_aload F.1 F.2.1 hd (hL.2.2 _ _ hx) k'
  · cases hf
def aStI (j nx : Nat) : ab_F := fun L st h => match st with
  | .int x :: r => some (nx, ab_set1 L j (.int x), r, h)
  | _ => none
theorem s_istore_n {M : ab_M} {i nx : Nat} {j : Nat} {q : Fin 4} (hd : decode (ab_by M) (ab_pc M i) = .ok (.istore_n q, 1)) (hq : (q : Nat) = j) (hj : j < ab_nL M) (hp : ab_pc M nx = ab_pc M i + 1) : ab_S M i (aStI j nx) := by
  intro d b Po L st h i' L' st' h' hf k p l e R s m args below meth c A D K as0 n0 mc ms fm X F as ls H locs cells slots Y hL hn hc hs
  unfold aStI at hf
  split at hf
  · rename_i x r
    cases hf
    refine lv_istore_n (nL := L.length) (lv := ab_asc as L) F.1 F.2.1 hd hq hL.has (by rw [hn]; exact hj) rfl fun ls' h9 => ?_
    have k' := k p l e R s m args below meth c A D K as0 n0 mc ms fm X F as ls' H locs cells slots Y (ab_LH.st1 (v := .int x) rfl (by rw [hn]; omega) h9) (by simp [ab_set1, ab_kill_len, hn]) hc hs
    rw [hp] at k'
    exact k'
  · cases hf
theorem s_istore {M : ab_M} {i nx : Nat} {j : Nat} (hd : decode (ab_by M) (ab_pc M i) = .ok (.istore j, 2)) (hj : j < ab_nL M) (hp : ab_pc M nx = ab_pc M i + 2) : ab_S M i (aStI j nx) := by
  intro d b Po L st h i' L' st' h' hf k p l e R s m args below meth c A D K as0 n0 mc ms fm X F as ls H locs cells slots Y hL hn hc hs
  unfold aStI at hf
  split at hf
  · rename_i x r
    cases hf
    refine lv_istore (nL := L.length) (lv := ab_asc as L) F.1 F.2.1 hd hL.has (by rw [hn]; exact hj) rfl fun ls' h9 => ?_
    have k' := k p l e R s m args below meth c A D K as0 n0 mc ms fm X F as ls' H locs cells slots Y (ab_LH.st1 (v := .int x) rfl (by rw [hn]; omega) h9) (by simp [ab_set1, ab_kill_len, hn]) hc hs
    rw [hp] at k'
    exact k'
  · cases hf
def aStL (j nx : Nat) : ab_F := fun L st h => match st with
  | .long x :: r => some (nx, ab_set2 L j (.long x), r, h)
  | _ => none
theorem s_lstore_n {M : ab_M} {i nx : Nat} {j : Nat} {q : Fin 4} (hd : decode (ab_by M) (ab_pc M i) = .ok (.lstore_n q, 1)) (hq : (q : Nat) = j) (hj : j + 1 < ab_nL M) (hp : ab_pc M nx = ab_pc M i + 1) : ab_S M i (aStL j nx) := by
  intro d b Po L st h i' L' st' h' hf k p l e R s m args below meth c A D K as0 n0 mc ms fm X F as ls H locs cells slots Y hL hn hc hs
  unfold aStL at hf
  split at hf
  · rename_i x r
    cases hf
    refine lv_lstore_n (nL := L.length) (lv := ab_asc as L) F.1 F.2.1 hd hq hL.has (by rw [hn]; exact hj) rfl fun ls' h9 => ?_
    have k' := k p l e R s m args below meth c A D K as0 n0 mc ms fm X F as ls' H locs cells slots Y (ab_LH.st2 (v := .long x) rfl (by rw [hn]; omega) h9) (by simp [ab_set2, ab_kill_len, hn]) hc hs
    rw [hp] at k'
    exact k'
  · cases hf
theorem s_lstore {M : ab_M} {i nx : Nat} {j : Nat} (hd : decode (ab_by M) (ab_pc M i) = .ok (.lstore j, 2)) (hj : j + 1 < ab_nL M) (hp : ab_pc M nx = ab_pc M i + 2) : ab_S M i (aStL j nx) := by
  intro d b Po L st h i' L' st' h' hf k p l e R s m args below meth c A D K as0 n0 mc ms fm X F as ls H locs cells slots Y hL hn hc hs
  unfold aStL at hf
  split at hf
  · rename_i x r
    cases hf
    refine lv_lstore (nL := L.length) (lv := ab_asc as L) F.1 F.2.1 hd hL.has (by rw [hn]; exact hj) rfl fun ls' h9 => ?_
    have k' := k p l e R s m args below meth c A D K as0 n0 mc ms fm X F as ls' H locs cells slots Y (ab_LH.st2 (v := .long x) rfl (by rw [hn]; omega) h9) (by simp [ab_set2, ab_kill_len, hn]) hc hs
    rw [hp] at k'
    exact k'
  · cases hf
def aStA (j nx : Nat) : ab_F := fun L st h => match st with
  | .ref x :: r => some (nx, ab_set1 L j (.ref x), r, h)
  | _ => none
theorem s_astore_n {M : ab_M} {i nx : Nat} {j : Nat} {q : Fin 4} (hd : decode (ab_by M) (ab_pc M i) = .ok (.astore_n q, 1)) (hq : (q : Nat) = j) (hj : j < ab_nL M) (hp : ab_pc M nx = ab_pc M i + 1) : ab_S M i (aStA j nx) := by
  intro d b Po L st h i' L' st' h' hf k p l e R s m args below meth c A D K as0 n0 mc ms fm X F as ls H locs cells slots Y hL hn hc hs
  unfold aStA at hf
  split at hf
  · rename_i x r
    cases hf
    refine lv_astore_n (nL := L.length) (lv := ab_asc as L) F.1 F.2.1 hd hq hL.has (by rw [hn]; exact hj) rfl fun ls' h9 => ?_
    have k' := k p l e R s m args below meth c A D K as0 n0 mc ms fm X F as ls' H locs cells slots Y (ab_LH.st1 (v := .ref x) rfl (by rw [hn]; omega) h9) (by simp [ab_set1, ab_kill_len, hn]) hc hs
    rw [hp] at k'
    exact k'
  · cases hf
theorem s_astore {M : ab_M} {i nx : Nat} {j : Nat} (hd : decode (ab_by M) (ab_pc M i) = .ok (.astore j, 2)) (hj : j < ab_nL M) (hp : ab_pc M nx = ab_pc M i + 2) : ab_S M i (aStA j nx) := by
  intro d b Po L st h i' L' st' h' hf k p l e R s m args below meth c A D K as0 n0 mc ms fm X F as ls H locs cells slots Y hL hn hc hs
  unfold aStA at hf
  split at hf
  · rename_i x r
    cases hf
    refine lv_astore (nL := L.length) (lv := ab_asc as L) F.1 F.2.1 hd hL.has (by rw [hn]; exact hj) rfl fun ls' h9 => ?_
    have k' := k p l e R s m args below meth c A D K as0 n0 mc ms fm X F as ls' H locs cells slots Y (ab_LH.st1 (v := .ref x) rfl (by rw [hn]; omega) h9) (by simp [ab_set1, ab_kill_len, hn]) hc hs
    rw [hp] at k'
    exact k'
  · cases hf
def aInc (j : Nat) (n : Int32) (nx : Nat) : ab_F := fun L st h => match L[j]? with
  | some (some (.int x)) => some (nx, ab_set1 L j (.int (x + n)), st, h)
  | _ => none
theorem s_iinc {M : ab_M} {i nx : Nat} {j : Nat} {q : Int} {n : Int32} (hd : decode (ab_by M) (ab_pc M i) = .ok (.iinc j q, 3)) (hq : Int32.ofInt q = n) (hj : j < ab_nL M) (hp : ab_pc M nx = ab_pc M i + 3) : ab_S M i (aInc j n nx) := by
  intro d b Po L st h i' L' st' h' hf k p l e R s m args below meth c A D K as0 n0 mc ms fm X F as ls H locs cells slots Y hL hn hc hs
  unfold aInc at hf
  split at hf
  · rename_i x hx
    cases hf
    obtain ⟨kx, hkx⟩ := List.getElem?_of_mem (ab_asc_mem (as := as) (q := (j, .int x)).mpr ⟨.int x, hx, rfl⟩)
    refine lv_iinc (nL := L.length) (lv := ab_asc as L) (k := kx) (v := x + n) F.1 F.2.1 hd hL.has hkx (by rw [hq]) (by rw [hn]; exact hj) rfl fun ls' h9 => ?_
    have k' := k p l e R s m args below meth c A D K as0 n0 mc ms fm X F as ls' H locs cells slots Y (ab_LH.st1 (v := .int (x + n)) rfl (by rw [hn]; omega) h9) (by simp [ab_set1, ab_kill_len, hn]) hc hs
    rw [hp] at k'
    exact k'
  · cases hf
/-! arithmetic -/
def a_iadd (nx : Nat) : ab_F := fun L st h => match st with
  | .int y :: .int x :: r => some (nx, L, .int (x + y) :: r, h)
  | _ => none
theorem s_iadd {M : ab_M} {i nx : Nat} (hd : decode (ab_by M) (ab_pc M i) = .ok (.iadd, 1)) (hp : ab_pc M nx = ab_pc M i + 1) : ab_S M i (a_iadd nx) := by
  intro d b Po L st h i' L' st' h' hf k p l e R s m args below meth c A D K as0 n0 mc ms fm X F as ls H locs cells slots Y hL hn hc hs
  unfold a_iadd at hf
  split at hf
  · cases hf
    have k' := k p l e R s m args below meth c A D K as0 n0 mc ms fm X F as ls H locs cells slots Y hL hn hc hs
    rw [hp] at k'
    exact lv_iadd F.1 F.2.1 hd k'
  · cases hf
def a_isub (nx : Nat) : ab_F := fun L st h => match st with
  | .int y :: .int x :: r => some (nx, L, .int (x - y) :: r, h)
  | _ => none
theorem s_isub {M : ab_M} {i nx : Nat} (hd : decode (ab_by M) (ab_pc M i) = .ok (.isub, 1)) (hp : ab_pc M nx = ab_pc M i + 1) : ab_S M i (a_isub nx) := by
  intro d b Po L st h i' L' st' h' hf k p l e R s m args below meth c A D K as0 n0 mc ms fm X F as ls H locs cells slots Y hL hn hc hs
  unfold a_isub at hf
  split at hf
  · cases hf
    have k' := k p l e R s m args below meth c A D K as0 n0 mc ms fm X F as ls H locs cells slots Y hL hn hc hs
    rw [hp] at k'
    exact lv_isub F.1 F.2.1 hd k'
  · cases hf
def a_imul (nx : Nat) : ab_F := fun L st h => match st with
  | .int y :: .int x :: r => some (nx, L, .int (x * y) :: r, h)
  | _ => none
theorem s_imul {M : ab_M} {i nx : Nat} (hd : decode (ab_by M) (ab_pc M i) = .ok (.imul, 1)) (hp : ab_pc M nx = ab_pc M i + 1) : ab_S M i (a_imul nx) := by
  intro d b Po L st h i' L' st' h' hf k p l e R s m args below meth c A D K as0 n0 mc ms fm X F as ls H locs cells slots Y hL hn hc hs
  unfold a_imul at hf
  split at hf
  · cases hf
    have k' := k p l e R s m args below meth c A D K as0 n0 mc ms fm X F as ls H locs cells slots Y hL hn hc hs
    rw [hp] at k'
    exact lv_imul F.1 F.2.1 hd k'
  · cases hf
def a_iand (nx : Nat) : ab_F := fun L st h => match st with
  | .int y :: .int x :: r => some (nx, L, .int (x &&& y) :: r, h)
  | _ => none
theorem s_iand {M : ab_M} {i nx : Nat} (hd : decode (ab_by M) (ab_pc M i) = .ok (.iand, 1)) (hp : ab_pc M nx = ab_pc M i + 1) : ab_S M i (a_iand nx) := by
  intro d b Po L st h i' L' st' h' hf k p l e R s m args below meth c A D K as0 n0 mc ms fm X F as ls H locs cells slots Y hL hn hc hs
  unfold a_iand at hf
  split at hf
  · cases hf
    have k' := k p l e R s m args below meth c A D K as0 n0 mc ms fm X F as ls H locs cells slots Y hL hn hc hs
    rw [hp] at k'
    exact lv_iand F.1 F.2.1 hd k'
  · cases hf
def a_ior (nx : Nat) : ab_F := fun L st h => match st with
  | .int y :: .int x :: r => some (nx, L, .int (x ||| y) :: r, h)
  | _ => none
theorem s_ior {M : ab_M} {i nx : Nat} (hd : decode (ab_by M) (ab_pc M i) = .ok (.ior, 1)) (hp : ab_pc M nx = ab_pc M i + 1) : ab_S M i (a_ior nx) := by
  intro d b Po L st h i' L' st' h' hf k p l e R s m args below meth c A D K as0 n0 mc ms fm X F as ls H locs cells slots Y hL hn hc hs
  unfold a_ior at hf
  split at hf
  · cases hf
    have k' := k p l e R s m args below meth c A D K as0 n0 mc ms fm X F as ls H locs cells slots Y hL hn hc hs
    rw [hp] at k'
    exact lv_ior F.1 F.2.1 hd k'
  · cases hf
def a_ixor (nx : Nat) : ab_F := fun L st h => match st with
  | .int y :: .int x :: r => some (nx, L, .int (x ^^^ y) :: r, h)
  | _ => none
theorem s_ixor {M : ab_M} {i nx : Nat} (hd : decode (ab_by M) (ab_pc M i) = .ok (.ixor, 1)) (hp : ab_pc M nx = ab_pc M i + 1) : ab_S M i (a_ixor nx) := by
  intro d b Po L st h i' L' st' h' hf k p l e R s m args below meth c A D K as0 n0 mc ms fm X F as ls H locs cells slots Y hL hn hc hs
  unfold a_ixor at hf
  split at hf
  · cases hf
    have k' := k p l e R s m args below meth c A D K as0 n0 mc ms fm X F as ls H locs cells slots Y hL hn hc hs
    rw [hp] at k'
    exact lv_ixor F.1 F.2.1 hd k'
  · cases hf
def a_ishl (nx : Nat) : ab_F := fun L st h => match st with
  | .int y :: .int x :: r => some (nx, L, .int (x <<< (y &&& 31)) :: r, h)
  | _ => none
theorem s_ishl {M : ab_M} {i nx : Nat} (hd : decode (ab_by M) (ab_pc M i) = .ok (.ishl, 1)) (hp : ab_pc M nx = ab_pc M i + 1) : ab_S M i (a_ishl nx) := by
  intro d b Po L st h i' L' st' h' hf k p l e R s m args below meth c A D K as0 n0 mc ms fm X F as ls H locs cells slots Y hL hn hc hs
  unfold a_ishl at hf
  split at hf
  · cases hf
    have k' := k p l e R s m args below meth c A D K as0 n0 mc ms fm X F as ls H locs cells slots Y hL hn hc hs
    rw [hp] at k'
    exact lv_ishl F.1 F.2.1 hd k'
  · cases hf
def a_ishr (nx : Nat) : ab_F := fun L st h => match st with
  | .int y :: .int x :: r => some (nx, L, .int (x >>> (y &&& 31)) :: r, h)
  | _ => none
theorem s_ishr {M : ab_M} {i nx : Nat} (hd : decode (ab_by M) (ab_pc M i) = .ok (.ishr, 1)) (hp : ab_pc M nx = ab_pc M i + 1) : ab_S M i (a_ishr nx) := by
  intro d b Po L st h i' L' st' h' hf k p l e R s m args below meth c A D K as0 n0 mc ms fm X F as ls H locs cells slots Y hL hn hc hs
  unfold a_ishr at hf
  split at hf
  · cases hf
    have k' := k p l e R s m args below meth c A D K as0 n0 mc ms fm X F as ls H locs cells slots Y hL hn hc hs
    rw [hp] at k'
    exact lv_ishr F.1 F.2.1 hd k'
  · cases hf
def a_iushr (nx : Nat) : ab_F := fun L st h => match st with
  | .int y :: .int x :: r => some (nx, L, .int ((x.toUInt32 >>> (y.toUInt32 &&& Int32.toUInt32 31)).toInt32) :: r, h)
  | _ => none
theorem s_iushr {M : ab_M} {i nx : Nat} (hd : decode (ab_by M) (ab_pc M i) = .ok (.iushr, 1)) (hp : ab_pc M nx = ab_pc M i + 1) : ab_S M i (a_iushr nx) := by
  intro d b Po L st h i' L' st' h' hf k p l e R s m args below meth c A D K as0 n0 mc ms fm X F as ls H locs cells slots Y hL hn hc hs
  unfold a_iushr at hf
  split at hf
  · cases hf
    have k' := k p l e R s m args below meth c A D K as0 n0 mc ms fm X F as ls H locs cells slots Y hL hn hc hs
    rw [hp] at k'
    exact lv_iushr F.1 F.2.1 hd rfl k'
  · cases hf
def a_idiv (nx : Nat) : ab_F := fun L st h => match st with
  | .int y :: .int x :: r => if ¬ y = 0 then some (nx, L, .int (x / y) :: r, h) else none
  | _ => none
theorem s_idiv {M : ab_M} {i nx : Nat} (hd : decode (ab_by M) (ab_pc M i) = .ok (.idiv, 1)) (hp : ab_pc M nx = ab_pc M i + 1) : ab_S M i (a_idiv nx) := by
  intro d b Po L st h i' L' st' h' hf k p l e R s m args below meth c A D K as0 n0 mc ms fm X F as ls H locs cells slots Y hL hn hc hs
  unfold a_idiv at hf
  split at hf
  · split at hf
    · rename_i hcd
      cases hf
      have k' := k p l e R s m args below meth c A D K as0 n0 mc ms fm X F as ls H locs cells slots Y hL hn hc hs
      rw [hp] at k'
      exact lv_idiv F.1 F.2.1 hd hcd k'
    · cases hf
  · cases hf
def a_irem (nx : Nat) : ab_F := fun L st h => match st with
  | .int y :: .int x :: r => if ¬ y = 0 then some (nx, L, .int (x - x / y * y) :: r, h) else none
  | _ => none
theorem s_irem {M : ab_M} {i nx : Nat} (hd : decode (ab_by M) (ab_pc M i) = .ok (.irem, 1)) (hp : ab_pc M nx = ab_pc M i + 1) : ab_S M i (a_irem nx) := by
  intro d b Po L st h i' L' st' h' hf k p l e R s m args below meth c A D K as0 n0 mc ms fm X F as ls H locs cells slots Y hL hn hc hs
  unfold a_irem at hf
  split at hf
  · split at hf
    · rename_i hcd
      cases hf
      have k' := k p l e R s m args below meth c A D K as0 n0 mc ms fm X F as ls H locs cells slots Y hL hn hc hs
      rw [hp] at k'
      exact lv_irem F.1 F.2.1 hd hcd k'
    · cases hf
  · cases hf
def a_ineg (nx : Nat) : ab_F := fun L st h => match st with
  | .int x :: r => some (nx, L, .int (-x) :: r, h)
  | _ => none
theorem s_ineg {M : ab_M} {i nx : Nat} (hd : decode (ab_by M) (ab_pc M i) = .ok (.ineg, 1)) (hp : ab_pc M nx = ab_pc M i + 1) : ab_S M i (a_ineg nx) := by
  intro d b Po L st h i' L' st' h' hf k p l e R s m args below meth c A D K as0 n0 mc ms fm X F as ls H locs cells slots Y hL hn hc hs
  unfold a_ineg at hf
  split at hf
  · cases hf
    have k' := k p l e R s m args below meth c A D K as0 n0 mc ms fm X F as ls H locs cells slots Y hL hn hc hs
    rw [hp] at k'
    exact lv_ineg F.1 F.2.1 hd k'
  · cases hf
def a_i2b (nx : Nat) : ab_F := fun L st h => match st with
  | .int x :: r => some (nx, L, .int (x.toInt8.toInt32) :: r, h)
  | _ => none
theorem s_i2b {M : ab_M} {i nx : Nat} (hd : decode (ab_by M) (ab_pc M i) = .ok (.i2b, 1)) (hp : ab_pc M nx = ab_pc M i + 1) : ab_S M i (a_i2b nx) := by
  intro d b Po L st h i' L' st' h' hf k p l e R s m args below meth c A D K as0 n0 mc ms fm X F as ls H locs cells slots Y hL hn hc hs
  unfold a_i2b at hf
  split at hf
  · cases hf
    have k' := k p l e R s m args below meth c A D K as0 n0 mc ms fm X F as ls H locs cells slots Y hL hn hc hs
    rw [hp] at k'
    exact lv_i2b F.1 F.2.1 hd rfl k'
  · cases hf
def a_i2c (nx : Nat) : ab_F := fun L st h => match st with
  | .int x :: r => some (nx, L, .int ((x.toUInt32 % 65536).toInt32) :: r, h)
  | _ => none
theorem s_i2c {M : ab_M} {i nx : Nat} (hd : decode (ab_by M) (ab_pc M i) = .ok (.i2c, 1)) (hp : ab_pc M nx = ab_pc M i + 1) : ab_S M i (a_i2c nx) := by
  intro d b Po L st h i' L' st' h' hf k p l e R s m args below meth c A D K as0 n0 mc ms fm X F as ls H locs cells slots Y hL hn hc hs
  unfold a_i2c at hf
  split at hf
  · cases hf
    have k' := k p l e R s m args below meth c A D K as0 n0 mc ms fm X F as ls H locs cells slots Y hL hn hc hs
    rw [hp] at k'
    exact lv_i2c F.1 F.2.1 hd rfl k'
  · cases hf
def a_i2l (nx : Nat) : ab_F := fun L st h => match st with
  | .int x :: r => some (nx, L, .long (x.toInt64) :: r, h)
  | _ => none
theorem s_i2l {M : ab_M} {i nx : Nat} (hd : decode (ab_by M) (ab_pc M i) = .ok (.i2l, 1)) (hp : ab_pc M nx = ab_pc M i + 1) : ab_S M i (a_i2l nx) := by
  intro d b Po L st h i' L' st' h' hf k p l e R s m args below meth c A D K as0 n0 mc ms fm X F as ls H locs cells slots Y hL hn hc hs
  unfold a_i2l at hf
  split at hf
  · cases hf
    have k' := k p l e R s m args below meth c A D K as0 n0 mc ms fm X F as ls H locs cells slots Y hL hn hc hs
    rw [hp] at k'
    exact lv_i2l F.1 F.2.1 hd rfl k'
  · cases hf
def a_l2i (nx : Nat) : ab_F := fun L st h => match st with
  | .long x :: r => some (nx, L, .int (x.toInt32) :: r, h)
  | _ => none
theorem s_l2i {M : ab_M} {i nx : Nat} (hd : decode (ab_by M) (ab_pc M i) = .ok (.l2i, 1)) (hp : ab_pc M nx = ab_pc M i + 1) : ab_S M i (a_l2i nx) := by
  intro d b Po L st h i' L' st' h' hf k p l e R s m args below meth c A D K as0 n0 mc ms fm X F as ls H locs cells slots Y hL hn hc hs
  unfold a_l2i at hf
  split at hf
  · cases hf
    have k' := k p l e R s m args below meth c A D K as0 n0 mc ms fm X F as ls H locs cells slots Y hL hn hc hs
    rw [hp] at k'
    exact lv_l2i F.1 F.2.1 hd rfl k'
  · cases hf
def a_ladd (nx : Nat) : ab_F := fun L st h => match st with
  | .long y :: .long x :: r => some (nx, L, .long (x + y) :: r, h)
  | _ => none
theorem s_ladd {M : ab_M} {i nx : Nat} (hd : decode (ab_by M) (ab_pc M i) = .ok (.ladd, 1)) (hp : ab_pc M nx = ab_pc M i + 1) : ab_S M i (a_ladd nx) := by
  intro d b Po L st h i' L' st' h' hf k p l e R s m args below meth c A D K as0 n0 mc ms fm X F as ls H locs cells slots Y hL hn hc hs
  unfold a_ladd at hf
  split at hf
  · cases hf
    have k' := k p l e R s m args below meth c A D K as0 n0 mc ms fm X F as ls H locs cells slots Y hL hn hc hs
    rw [hp] at k'
    exact lv_ladd F.1 F.2.1 hd k'
  · cases hf
def a_lsub (nx : Nat) : ab_F := fun L st h => match st with
  | .long y :: .long x :: r => some (nx, L, .long (x - y) :: r, h)
  | _ => none
theorem s_lsub {M : ab_M} {i nx : Nat} (hd : decode (ab_by M) (ab_pc M i) = .ok (.lsub, 1)) (hp : ab_pc M nx = ab_pc M i + 1) : ab_S M i (a_lsub nx) := by
  intro d b Po L st h i' L' st' h' hf k p l e R s m args below meth c A D K as0 n0 mc ms fm X F as ls H locs cells slots Y hL hn hc hs
  unfold a_lsub at hf
  split at hf
  · cases hf
    have k' := k p l e R s m args below meth c A D K as0 n0 mc ms fm X F as ls H locs cells slots Y hL hn hc hs
    rw [hp] at k'
    exact lv_lsub F.1 F.2.1 hd k'
  · cases hf
def a_lmul (nx : Nat) : ab_F := fun L st h => match st with
  | .long y :: .long x :: r => some (nx, L, .long (x * y) :: r, h)
  | _ => none
theorem s_lmul {M : ab_M} {i nx : Nat} (hd : decode (ab_by M) (ab_pc M i) = .ok (.lmul, 1)) (hp : ab_pc M nx = ab_pc M i + 1) : ab_S M i (a_lmul nx) := by
  intro d b Po L st h i' L' st' h' hf k p l e R s m args below meth c A D K as0 n0 mc ms fm X F as ls H locs cells slots Y hL hn hc hs
  unfold a_lmul at hf
  split at hf
  · cases hf
    have k' := k p l e R s m args below meth c A D K as0 n0 mc ms fm X F as ls H locs cells slots Y hL hn hc hs
    rw [hp] at k'
    exact lv_lmul F.1 F.2.1 hd k'
  · cases hf
def a_land (nx : Nat) : ab_F := fun L st h => match st with
  | .long y :: .long x :: r => some (nx, L, .long (x &&& y) :: r, h)
  | _ => none
theorem s_land {M : ab_M} {i nx : Nat} (hd : decode (ab_by M) (ab_pc M i) = .ok (.land, 1)) (hp : ab_pc M nx = ab_pc M i + 1) : ab_S M i (a_land nx) := by
  intro d b Po L st h i' L' st' h' hf k p l e R s m args below meth c A D K as0 n0 mc ms fm X F as ls H locs cells slots Y hL hn hc hs
  unfold a_land at hf
  split at hf
  · cases hf
    have k' := k p l e R s m args below meth c A D K as0 n0 mc ms fm X F as ls H locs cells slots Y hL hn hc hs
    rw [hp] at k'
    exact lv_land F.1 F.2.1 hd k'
  · cases hf
def a_lor (nx : Nat) : ab_F := fun L st h => match st with
  | .long y :: .long x :: r => some (nx, L, .long (x ||| y) :: r, h)
  | _ => none
theorem s_lor {M : ab_M} {i nx : Nat} (hd : decode (ab_by M) (ab_pc M i) = .ok (.lor, 1)) (hp : ab_pc M nx = ab_pc M i + 1) : ab_S M i (a_lor nx) := by
  intro d b Po L st h i' L' st' h' hf k p l e R s m args below meth c A D K as0 n0 mc ms fm X F as ls H locs cells slots Y hL hn hc hs
  unfold a_lor at hf
  split at hf
  · cases hf
    have k' := k p l e R s m args below meth c A D K as0 n0 mc ms fm X F as ls H locs cells slots Y hL hn hc hs
    rw [hp] at k'
    exact lv_lor F.1 F.2.1 hd k'
  · cases hf
def a_lushr (nx : Nat) : ab_F := fun L st h => match st with
  | .int y :: .long x :: r => some (nx, L, .long ((x.toUInt64 >>> (y.toInt64.toUInt64 &&& Int64.toUInt64 63)).toInt64) :: r, h)
  | _ => none
theorem s_lushr {M : ab_M} {i nx : Nat} (hd : decode (ab_by M) (ab_pc M i) = .ok (.lushr, 1)) (hp : ab_pc M nx = ab_pc M i + 1) : ab_S M i (a_lushr nx) := by
  intro d b Po L st h i' L' st' h' hf k p l e R s m args below meth c A D K as0 n0 mc ms fm X F as ls H locs cells slots Y hL hn hc hs
  unfold a_lushr at hf
  split at hf
  · cases hf
    have k' := k p l e R s m args below meth c A D K as0 n0 mc ms fm X F as ls H locs cells slots Y hL hn hc hs
    rw [hp] at k'
    exact lv_lushr F.1 F.2.1 hd rfl k'
  · cases hf
def a_lshl (nx : Nat) : ab_F := fun L st h => match st with
  | .int y :: .long x :: r => some (nx, L, .long (x <<< (y.toInt64 &&& 63)) :: r, h)
  | _ => none
theorem s_lshl {M : ab_M} {i nx : Nat} (hd : decode (ab_by M) (ab_pc M i) = .ok (.lshl, 1)) (hp : ab_pc M nx = ab_pc M i + 1) : ab_S M i (a_lshl nx) := by
  intro d b Po L st h i' L' st' h' hf k p l e R s m args below meth c A D K as0 n0 mc ms fm X F as ls H locs cells slots Y hL hn hc hs
  unfold a_lshl at hf
  split at hf
  · cases hf
    have k' := k p l e R s m args below meth c A D K as0 n0 mc ms fm X F as ls H locs cells slots Y hL hn hc hs
    rw [hp] at k'
    exact lv_lshl F.1 F.2.1 hd rfl k'
  · cases hf
def a_lcmp (nx : Nat) : ab_F := fun L st h => match st with
  | .long y :: .long x :: r => some (nx, L, .int (lg_cmp x y) :: r, h)
  | _ => none
theorem s_lcmp {M : ab_M} {i nx : Nat} (hd : decode (ab_by M) (ab_pc M i) = .ok (.lcmp, 1)) (hp : ab_pc M nx = ab_pc M i + 1) : ab_S M i (a_lcmp nx) := by
  intro d b Po L st h i' L' st' h' hf k p l e R s m args below meth c A D K as0 n0 mc ms fm X F as ls H locs cells slots Y hL hn hc hs
  unfold a_lcmp at hf
  split at hf
  · cases hf
    have k' := k p l e R s m args below meth c A D K as0 n0 mc ms fm X F as ls H locs cells slots Y hL hn hc hs
    rw [hp] at k'
    exact W.lcmp F.1 F.2.1 hd k'
  · cases hf
def a_dup (nx : Nat) : ab_F := fun L st h => match st with
  | .int x :: r => some (nx, L, .int x :: .int x :: r, h)
  | .ref x :: r => some (nx, L, .ref x :: .ref x :: r, h)
  | _ => none
def a_pop (nx : Nat) : ab_F := fun L st h => match st with
  | .int _ :: r => some (nx, L, r, h)
  | .ref _ :: r => some (nx, L, r, h)
  | _ => none
def a_dup2 (nx : Nat) : ab_F := fun L st h => match st with
  | .int x :: .ref y :: r => some (nx, L, .int x :: .ref y :: .int x :: .ref y :: r, h)
  | _ => none
theorem s_dup {M : ab_M} {i nx : Nat} (hd : decode (ab_by M) (ab_pc M i) = .ok (.dup, 1)) (hp : ab_pc M nx = ab_pc M i + 1) : ab_S M i (a_dup nx) := by
  intro d b Po L st h i' L' st' h' hf k p l e R s m args below meth c A D K as0 n0 mc ms fm X F as ls H locs cells slots Y hL hn hc hs
  unfold a_dup at hf
  split at hf
  · cases hf
    have k' := k p l e R s m args below meth c A D K as0 n0 mc ms fm X F as ls H locs cells slots Y hL hn hc hs
    rw [hp] at k'
    exact lv_dup F.1 F.2.1 hd rfl k'
  · cases hf
    have k' := k p l e R s m args below meth c A D K as0 n0 mc ms fm X F as ls H locs cells slots Y hL hn hc hs
    rw [hp] at k'
    exact lv_dup F.1 F.2.1 hd rfl k'
  · cases hf
theorem s_pop {M : ab_M} {i nx : Nat} (hd : decode (ab_by M) (ab_pc M i) = .ok (.pop, 1)) (hp : ab_pc M nx = ab_pc M i + 1) : ab_S M i (a_pop nx) := by
  intro d b Po L st h i' L' st' h' hf k p l e R s m args below meth c A D K as0 n0 mc ms fm X F as ls H locs cells slots Y hL hn hc hs
  unfold a_pop at hf
  split at hf
  · cases hf
    have k' := k p l e R s m args below meth c A D K as0 n0 mc ms fm X F as ls H locs cells slots Y hL hn hc hs
    rw [hp] at k'
    exact lv_pop F.1 F.2.1 hd rfl k'
  · cases hf
    have k' := k p l e R s m args below meth c A D K as0 n0 mc ms fm X F as ls H locs cells slots Y hL hn hc hs
    rw [hp] at k'
    exact lv_pop F.1 F.2.1 hd rfl k'
  · cases hf
theorem s_dup2 {M : ab_M} {i nx : Nat} (hd : decode (ab_by M) (ab_pc M i) = .ok (.dup2, 1)) (hp : ab_pc M nx = ab_pc M i + 1) : ab_S M i (a_dup2 nx) := by
  intro d b Po L st h i' L' st' h' hf k p l e R s m args below meth c A D K as0 n0 mc ms fm X F as ls H locs cells slots Y hL hn hc hs
  unfold a_dup2 at hf
  split at hf
  · cases hf
    have k' := k p l e R s m args below meth c A D K as0 n0 mc ms fm X F as ls H locs cells slots Y hL hn hc hs
    rw [hp] at k'
    exact lv_dup2_11 F.1 F.2.1 hd rfl rfl k'
  · cases hf
/-! jumps -/
def aGo (t : Nat) : ab_F := fun L st h => some (t, L, st, h)
theorem s_goto {M : ab_M} {i t : Nat} {o : Int} (hd : decode (ab_by M) (ab_pc M i) = .ok (.goto o, 3)) (ht : (ab_pc M i : Int) + o = (ab_pc M t : Int)) : ab_S M i (aGo t) := by
  intro d b Po L st h i' L' st' h' hf k p l e R s m args below meth c A D K as0 n0 mc ms fm X F as ls H locs cells slots Y hL hn hc hs
  cases hf
  have k' := k p l e R s m args below meth c A D K as0 n0 mc ms fm X F as ls H locs cells slots Y hL hn hc hs
  exact lv_goto F.1 F.2.1 hd ht k'
