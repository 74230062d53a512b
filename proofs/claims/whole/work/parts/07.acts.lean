def aIf_eq (t nx : Nat) : ab_F := fun L st h => match st with
  | .int x :: r => if x = 0 then some (t, L, r, h) else some (nx, L, r, h)
  | _ => none
theorem s_aIf_eq {M : ab_M} {i t nx : Nat} {o : Int} (hd : decode (ab_by M) (ab_pc M i) = .ok (.ifCond .eq o, 3)) (ht : (ab_pc M i : Int) + o = (ab_pc M t : Int)) (hp : ab_pc M nx = ab_pc M i + 3) : ab_S M i (aIf_eq t nx) := by
  intro d b Po L st h i' L' st' h' hf k p l e R s m args below meth c A D K as0 n0 mc ms fm X F as ls H locs cells slots Y hL hn hc hs
  unfold aIf_eq at hf
  split at hf
  · split at hf
    · rename_i hcd
      cases hf
      have k' := k p l e R s m args below meth c A D K as0 n0 mc ms fm X F as ls H locs cells slots Y hL hn hc hs
      exact lv_if_eq F.1 F.2.1 hd ht (fun _ => k') (fun z => absurd hcd z)
    · rename_i hcd
      cases hf
      have k' := k p l e R s m args below meth c A D K as0 n0 mc ms fm X F as ls H locs cells slots Y hL hn hc hs
      rw [hp] at k'
      exact lv_if_eq F.1 F.2.1 hd ht (fun z => absurd z hcd) (fun _ => k')
  · cases hf
def aIc_eq (t nx : Nat) : ab_F := fun L st h => match st with
  | .int y :: .int x :: r => if x = y then some (t, L, r, h) else some (nx, L, r, h)
  | _ => none
theorem s_aIc_eq {M : ab_M} {i t nx : Nat} {o : Int} (hd : decode (ab_by M) (ab_pc M i) = .ok (.if_icmp .eq o, 3)) (ht : (ab_pc M i : Int) + o = (ab_pc M t : Int)) (hp : ab_pc M nx = ab_pc M i + 3) : ab_S M i (aIc_eq t nx) := by
  intro d b Po L st h i' L' st' h' hf k p l e R s m args below meth c A D K as0 n0 mc ms fm X F as ls H locs cells slots Y hL hn hc hs
  unfold aIc_eq at hf
  split at hf
  · split at hf
    · rename_i hcd
      cases hf
      have k' := k p l e R s m args below meth c A D K as0 n0 mc ms fm X F as ls H locs cells slots Y hL hn hc hs
      exact lv_icmp_eq F.1 F.2.1 hd ht (fun _ => k') (fun z => absurd hcd z)
    · rename_i hcd
      cases hf
      have k' := k p l e R s m args below meth c A D K as0 n0 mc ms fm X F as ls H locs cells slots Y hL hn hc hs
      rw [hp] at k'
      exact lv_icmp_eq F.1 F.2.1 hd ht (fun z => absurd z hcd) (fun _ => k')
  · cases hf
def aIf_ne (t nx : Nat) : ab_F := fun L st h => match st with
  | .int x :: r => if x = 0 then some (nx, L, r, h) else some (t, L, r, h)
  | _ => none
theorem s_aIf_ne {M : ab_M} {i t nx : Nat} {o : Int} (hd : decode (ab_by M) (ab_pc M i) = .ok (.ifCond .ne o, 3)) (ht : (ab_pc M i : Int) + o = (ab_pc M t : Int)) (hp : ab_pc M nx = ab_pc M i + 3) : ab_S M i (aIf_ne t nx) := by
  intro d b Po L st h i' L' st' h' hf k p l e R s m args below meth c A D K as0 n0 mc ms fm X F as ls H locs cells slots Y hL hn hc hs
  unfold aIf_ne at hf
  split at hf
  · split at hf
    · rename_i hcd
      cases hf
      have k' := k p l e R s m args below meth c A D K as0 n0 mc ms fm X F as ls H locs cells slots Y hL hn hc hs
      rw [hp] at k'
      exact lv_if_ne F.1 F.2.1 hd ht (fun z => absurd hcd z) (fun _ => k')
    · rename_i hcd
      cases hf
      have k' := k p l e R s m args below meth c A D K as0 n0 mc ms fm X F as ls H locs cells slots Y hL hn hc hs
      exact lv_if_ne F.1 F.2.1 hd ht (fun _ => k') (fun z => absurd z hcd)
  · cases hf
def aIc_ne (t nx : Nat) : ab_F := fun L st h => match st with
  | .int y :: .int x :: r => if x = y then some (nx, L, r, h) else some (t, L, r, h)
  | _ => none
theorem s_aIc_ne {M : ab_M} {i t nx : Nat} {o : Int} (hd : decode (ab_by M) (ab_pc M i) = .ok (.if_icmp .ne o, 3)) (ht : (ab_pc M i : Int) + o = (ab_pc M t : Int)) (hp : ab_pc M nx = ab_pc M i + 3) : ab_S M i (aIc_ne t nx) := by
  intro d b Po L st h i' L' st' h' hf k p l e R s m args below meth c A D K as0 n0 mc ms fm X F as ls H locs cells slots Y hL hn hc hs
  unfold aIc_ne at hf
  split at hf
  · split at hf
    · rename_i hcd
      cases hf
      have k' := k p l e R s m args below meth c A D K as0 n0 mc ms fm X F as ls H locs cells slots Y hL hn hc hs
      rw [hp] at k'
      exact lv_icmp_ne F.1 F.2.1 hd ht (fun z => absurd hcd z) (fun _ => k')
    · rename_i hcd
      cases hf
      have k' := k p l e R s m args below meth c A D K as0 n0 mc ms fm X F as ls H locs cells slots Y hL hn hc hs
      exact lv_icmp_ne F.1 F.2.1 hd ht (fun _ => k') (fun z => absurd z hcd)
  · cases hf
def aIf_lt (t nx : Nat) : ab_F := fun L st h => match st with
  | .int x :: r => if x < 0 then some (t, L, r, h) else some (nx, L, r, h)
  | _ => none
theorem s_aIf_lt {M : ab_M} {i t nx : Nat} {o : Int} (hd : decode (ab_by M) (ab_pc M i) = .ok (.ifCond .lt o, 3)) (ht : (ab_pc M i : Int) + o = (ab_pc M t : Int)) (hp : ab_pc M nx = ab_pc M i + 3) : ab_S M i (aIf_lt t nx) := by
  intro d b Po L st h i' L' st' h' hf k p l e R s m args below meth c A D K as0 n0 mc ms fm X F as ls H locs cells slots Y hL hn hc hs
  unfold aIf_lt at hf
  split at hf
  · split at hf
    · rename_i hcd
      cases hf
      have k' := k p l e R s m args below meth c A D K as0 n0 mc ms fm X F as ls H locs cells slots Y hL hn hc hs
      exact lv_if_lt F.1 F.2.1 hd ht (fun _ => k') (fun z => absurd hcd z)
    · rename_i hcd
      cases hf
      have k' := k p l e R s m args below meth c A D K as0 n0 mc ms fm X F as ls H locs cells slots Y hL hn hc hs
      rw [hp] at k'
      exact lv_if_lt F.1 F.2.1 hd ht (fun z => absurd z hcd) (fun _ => k')
  · cases hf
def aIc_lt (t nx : Nat) : ab_F := fun L st h => match st with
  | .int y :: .int x :: r => if x < y then some (t, L, r, h) else some (nx, L, r, h)
  | _ => none
theorem s_aIc_lt {M : ab_M} {i t nx : Nat} {o : Int} (hd : decode (ab_by M) (ab_pc M i) = .ok (.if_icmp .lt o, 3)) (ht : (ab_pc M i : Int) + o = (ab_pc M t : Int)) (hp : ab_pc M nx = ab_pc M i + 3) : ab_S M i (aIc_lt t nx) := by
  intro d b Po L st h i' L' st' h' hf k p l e R s m args below meth c A D K as0 n0 mc ms fm X F as ls H locs cells slots Y hL hn hc hs
  unfold aIc_lt at hf
  split at hf
  · split at hf
    · rename_i hcd
      cases hf
      have k' := k p l e R s m args below meth c A D K as0 n0 mc ms fm X F as ls H locs cells slots Y hL hn hc hs
      exact lv_icmp_lt F.1 F.2.1 hd ht (fun _ => k') (fun z => absurd hcd z)
    · rename_i hcd
      cases hf
      have k' := k p l e R s m args below meth c A D K as0 n0 mc ms fm X F as ls H locs cells slots Y hL hn hc hs
      rw [hp] at k'
      exact lv_icmp_lt F.1 F.2.1 hd ht (fun z => absurd z hcd) (fun _ => k')
  · cases hf
def aIf_ge (t nx : Nat) : ab_F := fun L st h => match st with
  | .int x :: r => if 0 ≤ x then some (t, L, r, h) else some (nx, L, r, h)
  | _ => none
theorem s_aIf_ge {M : ab_M} {i t nx : Nat} {o : Int} (hd : decode (ab_by M) (ab_pc M i) = .ok (.ifCond .ge o, 3)) (ht : (ab_pc M i : Int) + o = (ab_pc M t : Int)) (hp : ab_pc M nx = ab_pc M i + 3) : ab_S M i (aIf_ge t nx) := by
  intro d b Po L st h i' L' st' h' hf k p l e R s m args below meth c A D K as0 n0 mc ms fm X F as ls H locs cells slots Y hL hn hc hs
  unfold aIf_ge at hf
  split at hf
  · split at hf
    · rename_i hcd
      cases hf
      have k' := k p l e R s m args below meth c A D K as0 n0 mc ms fm X F as ls H locs cells slots Y hL hn hc hs
      exact lv_if_ge F.1 F.2.1 hd ht (fun _ => k') (fun z => absurd hcd z)
    · rename_i hcd
      cases hf
      have k' := k p l e R s m args below meth c A D K as0 n0 mc ms fm X F as ls H locs cells slots Y hL hn hc hs
      rw [hp] at k'
      exact lv_if_ge F.1 F.2.1 hd ht (fun z => absurd z hcd) (fun _ => k')
  · cases hf
def aIc_ge (t nx : Nat) : ab_F := fun L st h => match st with
  | .int y :: .int x :: r => if y ≤ x then some (t, L, r, h) else some (nx, L, r, h)
  | _ => none
theorem s_aIc_ge {M : ab_M} {i t nx : Nat} {o : Int} (hd : decode (ab_by M) (ab_pc M i) = .ok (.if_icmp .ge o, 3)) (ht : (ab_pc M i : Int) + o = (ab_pc M t : Int)) (hp : ab_pc M nx = ab_pc M i + 3) : ab_S M i (aIc_ge t nx) := by
  intro d b Po L st h i' L' st' h' hf k p l e R s m args below meth c A D K as0 n0 mc ms fm X F as ls H locs cells slots Y hL hn hc hs
  unfold aIc_ge at hf
  split at hf
  · split at hf
    · rename_i hcd
      cases hf
      have k' := k p l e R s m args below meth c A D K as0 n0 mc ms fm X F as ls H locs cells slots Y hL hn hc hs
      exact lv_icmp_ge F.1 F.2.1 hd ht (fun _ => k') (fun z => absurd hcd z)
    · rename_i hcd
      cases hf
      have k' := k p l e R s m args below meth c A D K as0 n0 mc ms fm X F as ls H locs cells slots Y hL hn hc hs
      rw [hp] at k'
      exact lv_icmp_ge F.1 F.2.1 hd ht (fun z => absurd z hcd) (fun _ => k')
  · cases hf
def aIf_gt (t nx : Nat) : ab_F := fun L st h => match st with
  | .int x :: r => if 0 < x then some (t, L, r, h) else some (nx, L, r, h)
  | _ => none
theorem s_aIf_gt {M : ab_M} {i t nx : Nat} {o : Int} (hd : decode (ab_by M) (ab_pc M i) = .ok (.ifCond .gt o, 3)) (ht : (ab_pc M i : Int) + o = (ab_pc M t : Int)) (hp : ab_pc M nx = ab_pc M i + 3) : ab_S M i (aIf_gt t nx) := by
  intro d b Po L st h i' L' st' h' hf k p l e R s m args below meth c A D K as0 n0 mc ms fm X F as ls H locs cells slots Y hL hn hc hs
  unfold aIf_gt at hf
  split at hf
  · split at hf
    · rename_i hcd
      cases hf
      have k' := k p l e R s m args below meth c A D K as0 n0 mc ms fm X F as ls H locs cells slots Y hL hn hc hs
      exact lv_if_gt F.1 F.2.1 hd ht (fun _ => k') (fun z => absurd hcd z)
    · rename_i hcd
      cases hf
      have k' := k p l e R s m args below meth c A D K as0 n0 mc ms fm X F as ls H locs cells slots Y hL hn hc hs
      rw [hp] at k'
      exact lv_if_gt F.1 F.2.1 hd ht (fun z => absurd z hcd) (fun _ => k')
  · cases hf
def aIc_gt (t nx : Nat) : ab_F := fun L st h => match st with
  | .int y :: .int x :: r => if y < x then some (t, L, r, h) else some (nx, L, r, h)
  | _ => none
theorem s_aIc_gt {M : ab_M} {i t nx : Nat} {o : Int} (hd : decode (ab_by M) (ab_pc M i) = .ok (.if_icmp .gt o, 3)) (ht : (ab_pc M i : Int) + o = (ab_pc M t : Int)) (hp : ab_pc M nx = ab_pc M i + 3) : ab_S M i (aIc_gt t nx) := by
  intro d b Po L st h i' L' st' h' hf k p l e R s m args below meth c A D K as0 n0 mc ms fm X F as ls H locs cells slots Y hL hn hc hs
  unfold aIc_gt at hf
  split at hf
  · split at hf
    · rename_i hcd
      cases hf
      have k' := k p l e R s m args below meth c A D K as0 n0 mc ms fm X F as ls H locs cells slots Y hL hn hc hs
      exact lv_icmp_gt F.1 F.2.1 hd ht (fun _ => k') (fun z => absurd hcd z)
    · rename_i hcd
      cases hf
      have k' := k p l e R s m args below meth c A D K as0 n0 mc ms fm X F as ls H locs cells slots Y hL hn hc hs
      rw [hp] at k'
      exact lv_icmp_gt F.1 F.2.1 hd ht (fun z => absurd z hcd) (fun _ => k')
  · cases hf
def aIf_le (t nx : Nat) : ab_F := fun L st h => match st with
  | .int x :: r => if x ≤ 0 then some (t, L, r, h) else some (nx, L, r, h)
  | _ => none
theorem s_aIf_le {M : ab_M} {i t nx : Nat} {o : Int} (hd : decode (ab_by M) (ab_pc M i) = .ok (.ifCond .le o, 3)) (ht : (ab_pc M i : Int) + o = (ab_pc M t : Int)) (hp : ab_pc M nx = ab_pc M i + 3) : ab_S M i (aIf_le t nx) := by
  intro d b Po L st h i' L' st' h' hf k p l e R s m args below meth c A D K as0 n0 mc ms fm X F as ls H locs cells slots Y hL hn hc hs
  unfold aIf_le at hf
  split at hf
  · split at hf
    · rename_i hcd
      cases hf
      have k' := k p l e R s m args below meth c A D K as0 n0 mc ms fm X F as ls H locs cells slots Y hL hn hc hs
      exact lv_if_le F.1 F.2.1 hd ht (fun _ => k') (fun z => absurd hcd z)
    · rename_i hcd
      cases hf
      have k' := k p l e R s m args below meth c A D K as0 n0 mc ms fm X F as ls H locs cells slots Y hL hn hc hs
      rw [hp] at k'
      exact lv_if_le F.1 F.2.1 hd ht (fun z => absurd z hcd) (fun _ => k')
  · cases hf
def aIc_le (t nx : Nat) : ab_F := fun L st h => match st with
  | .int y :: .int x :: r => if x ≤ y then some (t, L, r, h) else some (nx, L, r, h)
  | _ => none
theorem s_aIc_le {M : ab_M} {i t nx : Nat} {o : Int} (hd : decode (ab_by M) (ab_pc M i) = .ok (.if_icmp .le o, 3)) (ht : (ab_pc M i : Int) + o = (ab_pc M t : Int)) (hp : ab_pc M nx = ab_pc M i + 3) : ab_S M i (aIc_le t nx) := by
  intro d b Po L st h i' L' st' h' hf k p l e R s m args below meth c A D K as0 n0 mc ms fm X F as ls H locs cells slots Y hL hn hc hs
  unfold aIc_le at hf
  split at hf
  · split at hf
    · rename_i hcd
      cases hf
      have k' := k p l e R s m args below meth c A D K as0 n0 mc ms fm X F as ls H locs cells slots Y hL hn hc hs
      exact lv_icmp_le F.1 F.2.1 hd ht (fun _ => k') (fun z => absurd hcd z)
    · rename_i hcd
      cases hf
      have k' := k p l e R s m args below meth c A D K as0 n0 mc ms fm X F as ls H locs cells slots Y hL hn hc hs
      rw [hp] at k'
      exact lv_icmp_le F.1 F.2.1 hd ht (fun z => absurd z hcd) (fun _ => k')
  · cases hf
def ab_tgt (lo : Int) (ts : List Nat) (df : Nat) (x : Int32) : Nat := if x.toInt < lo ∨ lo + (ts.length : Int) ≤ x.toInt then df else ts.getD (x.toInt - lo).toNat df
def aSw (lo : Int) (ts : List Nat) (df : Nat) : ab_F := fun L st h => match st with
  | .int x :: r => some (ab_tgt lo ts df x, L, r, h)
  | _ => none
theorem s_aSw {M : ab_M} {i df : Nat} {lo hi o : Int} {os : Array Int} {ts : List Nat} {ln : Nat} (hd : decode (ab_by M) (ab_pc M i) = .ok (.tableswitch o lo hi os, ln)) (hhi : hi = lo + (ts.length : Int) - 1) (hdf : (ab_pc M i : Int) + o = (ab_pc M df : Int)) (hts : ∀ j, j < ts.length → ∃ off, os[j]? = some off ∧ (ab_pc M i : Int) + off = (ab_pc M (ts.getD j df) : Int)) : ab_S M i (aSw lo ts df) := by
  intro d b Po L st h i' L' st' h' hf k p l e R s m args below meth c A D K as0 n0 mc ms fm X F as ls H locs cells slots Y hL hn hc hs
  unfold aSw at hf
  split at hf
  · rename_i x r
    cases hf
    have k' := k p l e R s m args below meth c A D K as0 n0 mc ms fm X F as ls H locs cells slots Y hL hn hc hs
    unfold ab_tgt at k'
    split at k'
    · rename_i hx
      exact lv_tableOut F.1 F.2.1 hd (by omega) hdf k'
    · rename_i hx
      obtain ⟨off, h1, h2⟩ := hts (x.toInt - lo).toNat (by omega)
      exact lv_tableIn F.1 F.2.1 hd (by omega) (by omega) h1 h2 k'
  · cases hf
/-! fields -/
def aGI (ci k nx : Nat) : ab_F := fun L st h => match st with
  | .ref a :: r => match h with
    | (sh, sg, rr) => match sh[a]? with
      | some (q, n) => bif Nat.beq q (ci + 10) && Nat.blt k n then some (nx, L, .int (sg a k) :: r, (sh, sg, rr)) else none
      | none => none
  | _ => none
def aGR (ci k nx : Nat) : ab_F := fun L st h => match st with
  | .ref a :: r => match h with
    | (sh, sg, ta, ro, xx) => match sh[a]? with
      | some (q, n) => bif Nat.beq q (ci + 10) && Nat.blt k n then some (nx, L, ro a k :: r, (sh, sg, ta, ro, xx)) else none
      | none => none
  | _ => none
/-- what a field's entry must say: own class, by its own link or a nest mate's -/
def ab_Fl (own : String) (ix ci k : Nat) : Prop := ∃ (C : String) (T : u_T) (N : Nat), vwCl[ci]? = some (C, T, N) ∧ k < N ∧ (∀ w ∈ u_ws C T N, w ∈ ab_good) ∧ (T k).1 = C ∧ (Cond.fieldLink own ix C (T k).2.1 (T k).2.2.1 ∈ ab_good ∨ ∃ host, Cond.fieldLinkNest own ix C (T k).2.1 (T k).2.2.1 host ∈ ab_nest)
theorem s_aGI {M : ab_M} {i nx ci k ix : Nat} (hd : decode (ab_by M) (ab_pc M i) = .ok (.getfield ix, 3)) (hw : ab_Fl (ab_y M).cls ix ci k) (hi : ab_isI ci k = true) (hp : ab_pc M nx = ab_pc M i + 3) : ab_S M i (aGI ci k nx) := by
  intro d b Po L st h i' L' st' h' hf kk p l e R s m args below meth c A D K as0 n0 mc ms fm X F as ls H locs cells slots Y hL hn hc hs
  unfold aGI at hf
  split at hf
  · rename_i a r
    obtain ⟨sh, sg, ta, ro, xx⟩ := h
    dsimp only at hf
    split at hf
    · rename_i q n hq
      rw [cond_eq_ite] at hf
      split at hf
      · rename_i hb
        cases hf
        have k' := kk p l e R s m args below meth c A D K as0 n0 mc ms fm X F as ls H locs cells slots Y hL hn hc hs
        rw [hp] at k'
        obtain ⟨fx, fb, fml, fown, fts, fN, fret, flk, fnm, fK, fA, fSt, fR⟩ := F
        obtain ⟨hP, hD, hS, hwf, hn0, hAg⟩ := Y
        simp only [Bool.and_eq_true, Nat.beq_eq, Nat.blt_eq] at hb
        obtain ⟨rfl, hkn⟩ := hb
        have hl : a < sh.length := (List.getElem?_eq_some_iff.mp hq).1
        have he := ab_w_get K as (sh, sg, ta, ro, xx) hl
        rw [ab_cell_o hq] at he
        obtain ⟨C, T, N, w1, w2, w3, w4, w5⟩ := hw
        have hv : ((List.range n).map (ab_fv as (sh, sg, ta, ro, xx) a ci))[k]? = some (.int (sg a k)) := by
          simp [hkn, ab_fv, hi]
        rcases w5 with w5 | ⟨host, w5⟩
        · exact va_get (C := C) (T := T) (N := N) (ref := C) fx fb fts w3 fown fK hP a he w1 k w2 (fts _ w5) (by rw [w4]; exact fun _ h9 => h9) hv hd k'
        · exact va_getN (C := C) (T := T) (N := N) (ref := C) (host := host) fx fb fts w3 fown fK hP a he w1 k w2 (va_Nw.use rfl (fN _ w5)) (by rw [w4]; exact fun _ h9 => h9) hv hd k'
      · cases hf
    · cases hf
  · cases hf
theorem s_aGR {M : ab_M} {i nx ci k ix : Nat} (hd : decode (ab_by M) (ab_pc M i) = .ok (.getfield ix, 3)) (hw : ab_Fl (ab_y M).cls ix ci k) (hi : ab_isI ci k = false) (hp : ab_pc M nx = ab_pc M i + 3) : ab_S M i (aGR ci k nx) := by
  intro d b Po L st h i' L' st' h' hf kk p l e R s m args below meth c A D K as0 n0 mc ms fm X F as ls H locs cells slots Y hL hn hc hs
  unfold aGR at hf
  split at hf
  · rename_i a r
    obtain ⟨sh, sg, ta, ro, xx⟩ := h
    dsimp only at hf
    split at hf
    · rename_i q n hq
      rw [cond_eq_ite] at hf
      split at hf
      · rename_i hb
        cases hf
        have k' := kk p l e R s m args below meth c A D K as0 n0 mc ms fm X F as ls H locs cells slots Y hL hn hc hs
        rw [hp] at k'
        obtain ⟨fx, fb, fml, fown, fts, fN, fret, flk, fnm, fK, fA, fSt, fR⟩ := F
        obtain ⟨hP, hD, hS, hwf, hn0, hAg⟩ := Y
        simp only [Bool.and_eq_true, Nat.beq_eq, Nat.blt_eq] at hb
        obtain ⟨rfl, hkn⟩ := hb
        have hl : a < sh.length := (List.getElem?_eq_some_iff.mp hq).1
        have he := ab_w_get K as (sh, sg, ta, ro, xx) hl
        rw [ab_cell_o hq] at he
        obtain ⟨C, T, N, w1, w2, w3, w4, w5⟩ := hw
        have hv : ((List.range n).map (ab_fv as (sh, sg, ta, ro, xx) a ci))[k]? = some (ab_tr as (ro a k)) := by
          simp [hkn, ab_fv, hi]
        rcases w5 with w5 | ⟨host, w5⟩
        · exact va_get (C := C) (T := T) (N := N) (ref := C) fx fb fts w3 fown fK hP a he w1 k w2 (fts _ w5) (by rw [w4]; exact fun _ h9 => h9) hv hd k'
        · exact va_getN (C := C) (T := T) (N := N) (ref := C) (host := host) fx fb fts w3 fown fK hP a he w1 k w2 (va_Nw.use rfl (fN _ w5)) (by rw [w4]; exact fun _ h9 => h9) hv hd k'
      · cases hf
    · cases hf
  · cases hf
def aPI (ci k nx : Nat) : ab_F := fun L st h => match st with
  | .int v :: .ref a :: r => match h with
    | (sh, sg, rr) => match sh[a]? with
      | some (q, n) => bif Nat.beq q (ci + 10) && Nat.blt k n then some (nx, L, r, (sh, ab_up sg a k v, rr)) else none
      | none => none
  | _ => none
def aPZ (ci k nx : Nat) : ab_F := fun L st h => match st with
  | .int v :: .ref a :: r => match h with
    | (sh, sg, rr) => match sh[a]? with
      | some (q, n) => bif Nat.beq q (ci + 10) && Nat.blt k n then (if v = 0 ∨ v = 1 then some (nx, L, r, (sh, ab_up sg a k v, rr)) else none) else none
      | none => none
  | _ => none
def aPR (ci k nx : Nat) : ab_F := fun L st h => match st with
  | .ref v :: .ref a :: r => match h with
    | (sh, sg, ta, ro, xx) => match sh[a]? with
      | some (q, n) => bif Nat.beq q (ci + 10) && (Nat.blt k n && (Nat.blt v sh.length || Nat.ble 9000 v)) then some (nx, L, r, (sh, sg, ta, ab_up ro a k (.ref v), xx)) else none
      | none => none
  | _ => none
theorem ab_fv_I {as : Nat → Nat} {sh : List (Nat × Nat)} {sg : Nat → Nat → Int32} {rr : (Nat → Nat → Int64) × (Nat → Nat → Value) × Nat × (Nat → Int32)} {a ci k n : Nat} {v : Int32} (hi : ab_isI ci k = true) (hk : k < n) : (List.range n).map (ab_fv as (sh, ab_up sg a k v, rr) a ci) = ((List.range n).map (ab_fv as (sh, sg, rr) a ci)).set k (.int v) := by
  apply List.ext_getElem?
  intro j
  rw [List.getElem?_set]
  by_cases hj : j < n
  · by_cases e : k = j
    · subst e
      simp [hj, ab_fv, hi, ab_up]
    · have e2 : ¬ j = k := fun z => e z.symm
      simp [hj, ab_fv, ab_up, e, e2]
  · have : k ≠ j := by omega
    simp [hj, this]
theorem ab_fv_R {as : Nat → Nat} {sh : List (Nat × Nat)} {sg : Nat → Nat → Int32} {ta : Nat → Nat → Int64} {ro : Nat → Nat → Value} {xx : Nat × (Nat → Int32)} {a ci k n : Nat} {v : Value} (hi : ab_isI ci k = false) (hk : k < n) : (List.range n).map (ab_fv as (sh, sg, ta, ab_up ro a k v, xx) a ci) = ((List.range n).map (ab_fv as (sh, sg, ta, ro, xx) a ci)).set k (ab_tr as v) := by
  apply List.ext_getElem?
  intro j
  rw [List.getElem?_set]
  by_cases hj : j < n
  · by_cases e : k = j
    · subst e
      simp [hj, ab_fv, hi, ab_up]
    · have e2 : ¬ j = k := fun z => e z.symm
      simp [hj, ab_fv, ab_up, e, e2]
  · have : k ≠ j := by omega
    simp [hj, this]
theorem ab_cell_cg {K : ab_K} {as as' : Nat → Nat} {h h' : ab_H} {c : Nat} (h1 : h'.1[c]? = h.1[c]?) (h2 : h'.2.1 c = h.2.1 c) (h3 : h'.2.2.1 c = h.2.2.1 c) (h4 : ∀ k, ab_tr as' (h'.2.2.2.1 c k) = ab_tr as (h.2.2.2.1 c k)) : ab_cell K as' h' c = ab_cell K as h c := by
  have h5 : ∀ ci, ab_fv as' h' c ci = ab_fv as h c ci := fun ci => funext fun j => by unfold ab_fv; rw [h2, h4]
  unfold ab_cell
  rw [h1, h2, h3]
  simp only [h5]
/-- what a written field's entry must say -/
def ab_Fp (own nm : String) (ix ci k : Nat) (ok : FieldType → Prop) : Prop := ∃ (C : String) (T : u_T) (N : Nat) (ty0 : Nat → FieldType), vwCl[ci]? = some (C, T, N) ∧ k < N ∧ (∀ w ∈ u_ws C T N, w ∈ ab_good) ∧ (T k).1 = C ∧ (∀ k, k < N → parseFieldDescriptor (T k).2.2.1 = some (ty0 k)) ∧ (∀ a, a < N → ∀ b, b < N → a ≠ b → (T a).2.1 ≠ (T b).2.1) ∧ ok (ty0 k) ∧ ((Cond.fieldLink own ix C (T k).2.1 (T k).2.2.1 ∈ ab_good ∧ (T k).2.2.2 = false) ∨ (Cond.fieldLink own ix C (T k).2.1 (T k).2.2.1 ∈ ab_good ∧ (T k).2.2.2 = true ∧ nm = "<init>" ∧ C = own) ∨ ∃ host, Cond.fieldLinkNest own ix C (T k).2.1 (T k).2.2.1 host ∈ ab_nest ∧ (T k).2.2.2 = false)
def ab_okI : FieldType → Prop := fun t => t = .int
def ab_okZ : FieldType → Prop := fun t => t = .boolean
def ab_okR : FieldType → Prop := fun t => (∃ n, t = .object n) ∨ ∃ u, t = .array u
theorem s_aPI {M : ab_M} {i nx ci k ix : Nat} (hd : decode (ab_by M) (ab_pc M i) = .ok (.putfield ix, 3)) (hw : ab_Fp (ab_y M).cls (ab_y M).name ix ci k ab_okI) (hi : ab_isI ci k = true) (hp : ab_pc M nx = ab_pc M i + 3) : ab_S M i (aPI ci k nx) := by
  intro d b Po L st h i' L' st' h' hf kk p l e R s m args below meth c A D K as0 n0 mc ms fm X F as ls H locs cells slots Y hL hn hc hs
  unfold aPI at hf
  split at hf
  · rename_i v a r
    obtain ⟨sh, sg, ta, ro, xx⟩ := h
    dsimp only at hf
    split at hf
    · rename_i q n hq
      rw [cond_eq_ite] at hf
      split at hf
      · rename_i hb
        cases hf
        simp only [Bool.and_eq_true, Bool.or_eq_true, Nat.beq_eq, Nat.blt_eq, Nat.ble_eq] at hb
        obtain ⟨rfl, hkn⟩ := hb
        have hl : a < sh.length := (List.getElem?_eq_some_iff.mp hq).1
        have F' := F
        obtain ⟨fx, fb, fml, fown, fts, fN, fret, flk, fnm, fK, fA, fSt, fR⟩ := F
        obtain ⟨hP, hD, hS, hwf, hn0, hAg⟩ := Y
        have he := ab_w_get K as (sh, sg, ta, ro, xx) hl
        rw [ab_cell_o hq] at he
        obtain ⟨C, T, N, ty0, w1, w2, w3, w4, w5, w6, w7, w8⟩ := hw
        have hset := ab_w_set K as (sh, sg, ta, ro, xx) (sh, ab_up sg a k v, ta, ro, xx) a rfl (fun c' hc' => ab_cell_cg rfl (by show ab_up sg a k v c' = sg c'; exact ab_up_o hc') rfl (fun _ => rfl))
        rw [ab_cell_o (h := (sh, ab_up sg a k v, ta, ro, xx)) hq, ab_fv_I hi hkn] at hset
        have done : ∀ (H1 : Heap) (locs1 : List Loc), va_P D vwCl ((ab_w K as (sh, sg, ta, ro, xx)).set a (as a, .inr (ci, ((List.range n).map (ab_fv as (sh, sg, ta, ro, xx) a ci)).set k (.int v)))) H1 → va_D A ((ab_w K as (sh, sg, ta, ro, xx)).set a (as a, .inr (ci, ((List.range n).map (ab_fv as (sh, sg, ta, ro, xx) a ci)).set k (.int v)))) → va_S A s.heap H1 locs1 → W p l e R s m args below meth c H1 locs1 cells slots (MQ below (ab_Qc A D K as0 n0 mc fm X Po) args s mc ms A) (F0 m (ab_pc M i + 3) ls (st'.map (ab_tr as))) := by
          intro H1 locs1 hP1 hD1 hS1
          rw [← hset] at hP1 hD1
          have k' := kk p l e R s m args below meth c A D K as0 n0 mc ms fm X F' as ls H1 locs1 cells slots ⟨hP1, hD1, hS1, hwf, hn0, hAg⟩ hL hn hc hs
          rw [hp] at k'
          exact k'
        rcases w8 with ⟨w8, w9⟩ | ⟨w8, w9⟩ | ⟨host, w8, w9⟩
        · exact va_put (C := C) (T := T) (N := N) (ref := C) (ty := ty0 k) (v := (.int v)) fx fb fts w3 ty0 w5 w6 fown fK hP hD hS a he w1 k w2 (fts _ w8) (by rw [w4]; exact fun _ h9 => h9) w9 (w5 k w2) (by rw [show ty0 k = .int from w7]; rfl) (by rw [show ty0 k = .int from w7]; rfl) (by simpa using hkn) hd done
        · exact va_putF (C := C) (T := T) (N := N) (ref := C) (ty := ty0 k) (v := (.int v)) fx fb fts w3 ty0 w5 w6 fown fK hP hD hS a he w1 k w2 (fts _ w8) (by rw [w4]; exact fun _ h9 => h9) w9.1 (fnm.trans w9.2.1) (w4.trans w9.2.2) (w5 k w2) (by rw [show ty0 k = .int from w7]; rfl) (by rw [show ty0 k = .int from w7]; rfl) (by simpa using hkn) hd done
        · exact va_putN (C := C) (T := T) (N := N) (ref := C) (host := host) (ty := ty0 k) (v := (.int v)) fx fb fts w3 ty0 w5 w6 fown fK hP hD hS a he w1 k w2 (va_Nw.use rfl (fN _ w8)) (by rw [w4]; exact fun _ h9 => h9) w9 (w5 k w2) (by rw [show ty0 k = .int from w7]; rfl) (by rw [show ty0 k = .int from w7]; rfl) (by simpa using hkn) hd done
      · cases hf
    · cases hf
  · cases hf
theorem s_aPZ {M : ab_M} {i nx ci k ix : Nat} (hd : decode (ab_by M) (ab_pc M i) = .ok (.putfield ix, 3)) (hw : ab_Fp (ab_y M).cls (ab_y M).name ix ci k ab_okZ) (hi : ab_isI ci k = true) (hp : ab_pc M nx = ab_pc M i + 3) : ab_S M i (aPZ ci k nx) := by
  intro d b Po L st h i' L' st' h' hf kk p l e R s m args below meth c A D K as0 n0 mc ms fm X F as ls H locs cells slots Y hL hn hc hs
  unfold aPZ at hf
  split at hf
  · rename_i v a r
    obtain ⟨sh, sg, ta, ro, xx⟩ := h
    dsimp only at hf
    split at hf
    · rename_i q n hq
      rw [cond_eq_ite] at hf
      split at hf
      · rename_i hb
        split at hf
        case isFalse => cases hf
        rename_i hz
        cases hf
        simp only [Bool.and_eq_true, Bool.or_eq_true, Nat.beq_eq, Nat.blt_eq, Nat.ble_eq] at hb
        obtain ⟨rfl, hkn⟩ := hb
        have hl : a < sh.length := (List.getElem?_eq_some_iff.mp hq).1
        have F' := F
        obtain ⟨fx, fb, fml, fown, fts, fN, fret, flk, fnm, fK, fA, fSt, fR⟩ := F
        obtain ⟨hP, hD, hS, hwf, hn0, hAg⟩ := Y
        have he := ab_w_get K as (sh, sg, ta, ro, xx) hl
        rw [ab_cell_o hq] at he
        obtain ⟨C, T, N, ty0, w1, w2, w3, w4, w5, w6, w7, w8⟩ := hw
        have hset := ab_w_set K as (sh, sg, ta, ro, xx) (sh, ab_up sg a k v, ta, ro, xx) a rfl (fun c' hc' => ab_cell_cg rfl (by show ab_up sg a k v c' = sg c'; exact ab_up_o hc') rfl (fun _ => rfl))
        rw [ab_cell_o (h := (sh, ab_up sg a k v, ta, ro, xx)) hq, ab_fv_I hi hkn] at hset
        have done : ∀ (H1 : Heap) (locs1 : List Loc), va_P D vwCl ((ab_w K as (sh, sg, ta, ro, xx)).set a (as a, .inr (ci, ((List.range n).map (ab_fv as (sh, sg, ta, ro, xx) a ci)).set k (.int v)))) H1 → va_D A ((ab_w K as (sh, sg, ta, ro, xx)).set a (as a, .inr (ci, ((List.range n).map (ab_fv as (sh, sg, ta, ro, xx) a ci)).set k (.int v)))) → va_S A s.heap H1 locs1 → W p l e R s m args below meth c H1 locs1 cells slots (MQ below (ab_Qc A D K as0 n0 mc fm X Po) args s mc ms A) (F0 m (ab_pc M i + 3) ls (st'.map (ab_tr as))) := by
          intro H1 locs1 hP1 hD1 hS1
          rw [← hset] at hP1 hD1
          have k' := kk p l e R s m args below meth c A D K as0 n0 mc ms fm X F' as ls H1 locs1 cells slots ⟨hP1, hD1, hS1, hwf, hn0, hAg⟩ hL hn hc hs
          rw [hp] at k'
          exact k'
        rcases w8 with ⟨w8, w9⟩ | ⟨w8, w9⟩ | ⟨host, w8, w9⟩
        · exact va_put (C := C) (T := T) (N := N) (ref := C) (ty := ty0 k) (v := (.int v)) fx fb fts w3 ty0 w5 w6 fown fK hP hD hS a he w1 k w2 (fts _ w8) (by rw [w4]; exact fun _ h9 => h9) w9 (w5 k w2) (by rw [show ty0 k = .boolean from w7]; rcases hz with rfl | rfl <;> rfl) (by rw [show ty0 k = .boolean from w7]; rcases hz with rfl | rfl <;> rfl) (by simpa using hkn) hd done
        · exact va_putF (C := C) (T := T) (N := N) (ref := C) (ty := ty0 k) (v := (.int v)) fx fb fts w3 ty0 w5 w6 fown fK hP hD hS a he w1 k w2 (fts _ w8) (by rw [w4]; exact fun _ h9 => h9) w9.1 (fnm.trans w9.2.1) (w4.trans w9.2.2) (w5 k w2) (by rw [show ty0 k = .boolean from w7]; rcases hz with rfl | rfl <;> rfl) (by rw [show ty0 k = .boolean from w7]; rcases hz with rfl | rfl <;> rfl) (by simpa using hkn) hd done
        · exact va_putN (C := C) (T := T) (N := N) (ref := C) (host := host) (ty := ty0 k) (v := (.int v)) fx fb fts w3 ty0 w5 w6 fown fK hP hD hS a he w1 k w2 (va_Nw.use rfl (fN _ w8)) (by rw [w4]; exact fun _ h9 => h9) w9 (w5 k w2) (by rw [show ty0 k = .boolean from w7]; rcases hz with rfl | rfl <;> rfl) (by rw [show ty0 k = .boolean from w7]; rcases hz with rfl | rfl <;> rfl) (by simpa using hkn) hd done
      · cases hf
    · cases hf
  · cases hf
theorem s_aPR {M : ab_M} {i nx ci k ix : Nat} (hd : decode (ab_by M) (ab_pc M i) = .ok (.putfield ix, 3)) (hw : ab_Fp (ab_y M).cls (ab_y M).name ix ci k ab_okR) (hi : ab_isI ci k = false) (hp : ab_pc M nx = ab_pc M i + 3) : ab_S M i (aPR ci k nx) := by
  intro d b Po L st h i' L' st' h' hf kk p l e R s m args below meth c A D K as0 n0 mc ms fm X F as ls H locs cells slots Y hL hn hc hs
  unfold aPR at hf
  split at hf
  · rename_i v a r
    obtain ⟨sh, sg, ta, ro, xx⟩ := h
    dsimp only at hf
    split at hf
    · rename_i q n hq
      rw [cond_eq_ite] at hf
      split at hf
      · rename_i hb
        cases hf
        simp only [Bool.and_eq_true, Bool.or_eq_true, Nat.beq_eq, Nat.blt_eq, Nat.ble_eq] at hb
        obtain ⟨rfl, hkn, hvk⟩ := hb
        have hl : a < sh.length := (List.getElem?_eq_some_iff.mp hq).1
        have F' := F
        obtain ⟨fx, fb, fml, fown, fts, fN, fret, flk, fnm, fK, fA, fSt, fR⟩ := F
        obtain ⟨hP, hD, hS, hwf, hn0, hAg⟩ := Y
        have he := ab_w_get K as (sh, sg, ta, ro, xx) hl
        rw [ab_cell_o hq] at he
        obtain ⟨C, T, N, ty0, w1, w2, w3, w4, w5, w6, w7, w8⟩ := hw
        have hset := ab_w_set K as (sh, sg, ta, ro, xx) (sh, sg, ta, ab_up ro a k (.ref v), xx) a rfl (fun c' hc' => ab_cell_cg rfl rfl rfl (fun j => by show ab_tr as (ab_up ro a k (.ref v) c' j) = _; rw [ab_up_o hc']))
        rw [ab_cell_o (h := (sh, sg, ta, ab_up ro a k (.ref v), xx)) hq, ab_fv_R hi hkn] at hset
        have done : ∀ (H1 : Heap) (locs1 : List Loc), va_P D vwCl ((ab_w K as (sh, sg, ta, ro, xx)).set a (as a, .inr (ci, ((List.range n).map (ab_fv as (sh, sg, ta, ro, xx) a ci)).set k (ab_tr as (.ref v))))) H1 → va_D A ((ab_w K as (sh, sg, ta, ro, xx)).set a (as a, .inr (ci, ((List.range n).map (ab_fv as (sh, sg, ta, ro, xx) a ci)).set k (ab_tr as (.ref v))))) → va_S A s.heap H1 locs1 → W p l e R s m args below meth c H1 locs1 cells slots (MQ below (ab_Qc A D K as0 n0 mc fm X Po) args s mc ms A) (F0 m (ab_pc M i + 3) ls (st'.map (ab_tr as))) := by
          intro H1 locs1 hP1 hD1 hS1
          rw [← hset] at hP1 hD1
          have k' := kk p l e R s m args below meth c A D K as0 n0 mc ms fm X F' as ls H1 locs1 cells slots ⟨hP1, hD1, hS1, ⟨fun c' j => by
            show ab_vok sh.length (ab_up ro a k (.ref v) c' j)
            unfold ab_up
            split
            · dsimp only
              split
              · exact hvk
              · exact hwf.1 a j
            · exact hwf.1 c' j, hwf.2.1, by
            show ab_up ro a k (.ref v) 9006 0 = fm
            have h9 : sh.length ≤ 9000 := hwf.2.1
            rw [ab_up_o (fun z => absurd hl (by rw [← z]; exact Nat.not_lt_of_le (Nat.le_trans h9 (by decide))))]
            exact hwf.2.2.1, hwf.2.2.2⟩, hn0, hAg⟩ hL hn hc hs
          rw [hp] at k'
          exact k'
        rcases w8 with ⟨w8, w9⟩ | ⟨w8, w9⟩ | ⟨host, w8, w9⟩
        · exact va_put (C := C) (T := T) (N := N) (ref := C) (ty := ty0 k) (v := (ab_tr as (.ref v))) fx fb fts w3 ty0 w5 w6 fown fK hP hD hS a he w1 k w2 (fts _ w8) (by rw [w4]; exact fun _ h9 => h9) w9 (w5 k w2) (by rcases w7 with ⟨n9, w7⟩ | ⟨n9, w7⟩ <;> rw [w7] <;> rfl) (by rcases w7 with ⟨n9, w7⟩ | ⟨n9, w7⟩ <;> rw [w7] <;> rfl) (by simpa using hkn) hd done
        · exact va_putF (C := C) (T := T) (N := N) (ref := C) (ty := ty0 k) (v := (ab_tr as (.ref v))) fx fb fts w3 ty0 w5 w6 fown fK hP hD hS a he w1 k w2 (fts _ w8) (by rw [w4]; exact fun _ h9 => h9) w9.1 (fnm.trans w9.2.1) (w4.trans w9.2.2) (w5 k w2) (by rcases w7 with ⟨n9, w7⟩ | ⟨n9, w7⟩ <;> rw [w7] <;> rfl) (by rcases w7 with ⟨n9, w7⟩ | ⟨n9, w7⟩ <;> rw [w7] <;> rfl) (by simpa using hkn) hd done
        · exact va_putN (C := C) (T := T) (N := N) (ref := C) (host := host) (ty := ty0 k) (v := (ab_tr as (.ref v))) fx fb fts w3 ty0 w5 w6 fown fK hP hD hS a he w1 k w2 (va_Nw.use rfl (fN _ w8)) (by rw [w4]; exact fun _ h9 => h9) w9 (w5 k w2) (by rcases w7 with ⟨n9, w7⟩ | ⟨n9, w7⟩ <;> rw [w7] <;> rfl) (by rcases w7 with ⟨n9, w7⟩ | ⟨n9, w7⟩ <;> rw [w7] <;> rfl) (by simpa using hkn) hd done
      · cases hf
    · cases hf
  · cases hf
