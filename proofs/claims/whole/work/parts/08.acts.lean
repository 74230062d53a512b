theorem ab_cell_0 {K : ab_K} {as : Nat → Nat} {h : ab_H} {a n : Nat} (e : h.1[a]? = some (0, n)) : ab_cell K as h a = .inl (K.1, n, .inl (h.2.1 a)) := by unfold ab_cell; rw [e]
theorem ab_cell_1 {K : ab_K} {as : Nat → Nat} {h : ab_H} {a n : Nat} (e : h.1[a]? = some (1, n)) : ab_cell K as h a = .inl (K.2.1, n, .inl (h.2.1 a)) := by unfold ab_cell; rw [e]
theorem ab_cell_2 {K : ab_K} {as : Nat → Nat} {h : ab_H} {a n : Nat} (e : h.1[a]? = some (2, n)) : ab_cell K as h a = .inl (K.2.2.1, n, .inl (h.2.1 a)) := by unfold ab_cell; rw [e]
theorem ab_cell_3 {K : ab_K} {as : Nat → Nat} {h : ab_H} {a n : Nat} (e : h.1[a]? = some (3, n)) : ab_cell K as h a = .inl (K.2.2.2, n, .inr (.inl (h.2.2.1 a))) := by unfold ab_cell; rw [e]
def aIA (nx : Nat) : ab_F := fun L st h => match st with
  | .int j :: .ref a :: r => match h with
    | (sh, sg, ta, ro, xn, xs) => match sh[a]? with
      | some (0, n) => if 0 ≤ j.toInt ∧ j.toInt < (n : Int) then some (nx, L, .int (sg a j.toNatClampNeg) :: r, (sh, sg, ta, ro, xn, xs)) else none
      | some _ => none
      | none => bif Nat.beq a 9000 then (if 0 ≤ j.toInt ∧ j.toInt < 6 then some (nx, L, .int (ab_wgI j.toNatClampNeg) :: r, (sh, sg, ta, ro, xn, xs)) else none) else bif Nat.beq a 9001 then (if 0 ≤ j.toInt ∧ j.toInt < (xn : Int) then some (nx, L, .int (xs j.toNatClampNeg) :: r, (sh, sg, ta, ro, xn, xs)) else none) else none
  | _ => none
theorem s_iaload {M : ab_M} {i nx : Nat} (hd : decode (ab_by M) (ab_pc M i) = .ok (.iaload, 1)) (hp : ab_pc M nx = ab_pc M i + 1) : ab_S M i (aIA nx) := by
  intro d b Po L st h i' L' st' h' hf kk p l e R s m args below meth c A D K as0 n0 mc ms fm X F as ls H locs cells slots Y hL hn hc hs
  unfold aIA at hf
  split at hf
  case h_2 => cases hf
  rename_i j a r
  obtain ⟨sh, sg, ta, ro, xn, xs⟩ := h
  dsimp only at hf
  have e9 : ∀ c, 9000 ≤ c → as c = as0 c := fun c hc => Y.2.2.2.2.2 c (Or.inr (Or.inl hc))
  split at hf
  · rename_i n hq
    split at hf
    case isFalse => cases hf
    rename_i hin
    cases hf
    have k' := kk p l e R s m args below meth c A D K as0 n0 mc ms fm X F as ls H locs cells slots Y hL hn hc hs
    rw [hp] at k'
    have he := ab_w_get K as (sh, sg, ta, ro, xn, xs) (List.getElem?_eq_some_iff.mp hq).1
    rw [ab_cell_0 hq] at he
    exact va_iald F.1 F.2.1 F.2.2.2.2.2.2.2.2.2.1 Y.1 a 0 he rfl (vp_in_iff.mpr hin) hd k'
  · cases hf
  · rw [cond_eq_ite] at hf
    split at hf
    · rename_i hq ha
      have ha := Nat.beq_eq.mp ha
      subst ha
      split at hf
      case isFalse => cases hf
      rename_i hin
      cases hf
      have k' := kk p l e R s m args below meth c A D K as0 n0 mc ms fm X F as ls H locs cells slots Y hL hn hc hs
      rw [hp] at k'
      show W p l e R s m args below meth c H locs cells slots _ (F0 m (ab_pc M i) ls (.int j :: .ref (as 9000) :: r.map (ab_tr as)))
      rw [e9 9000 (Nat.le_refl _)]
      exact va_ti F.1 F.2.1 F.2.2.2.2.2.2.2.2.2.2.2.1.1.2 Y.2.2.1 (vp_in_iff.mpr ⟨hin.1, by have := hin.2; omega⟩) rfl hd k'
    · rw [cond_eq_ite] at hf
      split at hf
      · rename_i hq ha0 ha
        have ha := Nat.beq_eq.mp ha
        subst ha
        split at hf
        case isFalse => cases hf
        rename_i hin
        cases hf
        have k' := kk p l e R s m args below meth c A D K as0 n0 mc ms fm X F as ls H locs cells slots Y hL hn hc hs
        rw [hp] at k'
        have hX : (xn, xs) = X := Y.2.2.2.1.2.2.2.1
        subst hX
        show W p l e R s m args below meth c H locs cells slots _ (F0 m (ab_pc M i) ls (.int j :: .ref (as 9001) :: r.map (ab_tr as)))
        rw [e9 9001 (by omega)]
        have b := F.2.2.2.2.2.2.2.2.2.2.2.1.2.1
        exact va_sld F.1 F.2.1 b.1 b.2.1 b.2.2 Y.2.2.1 (vp_in_iff.mpr hin) hd k'
      · cases hf
def aLn (nx : Nat) : ab_F := fun L st h => match st with
  | .ref a :: r => match h with
    | (sh, sg, ta, ro, xn, xs) => match sh[a]? with
      | some (0, n) => some (nx, L, .int (Int32.ofNat n) :: r, (sh, sg, ta, ro, xn, xs))
      | some (1, n) => some (nx, L, .int (Int32.ofNat n) :: r, (sh, sg, ta, ro, xn, xs))
      | some (3, n) => some (nx, L, .int (Int32.ofNat n) :: r, (sh, sg, ta, ro, xn, xs))
      | some _ => none
      | none => bif Nat.beq a 9000 then some (nx, L, .int 6 :: r, (sh, sg, ta, ro, xn, xs)) else bif Nat.beq a 9001 then some (nx, L, .int (Int32.ofNat xn) :: r, (sh, sg, ta, ro, xn, xs)) else bif Nat.beq a 9004 then some (nx, L, .int 119 :: r, (sh, sg, ta, ro, xn, xs)) else bif Nat.beq a 9005 then some (nx, L, .int 9 :: r, (sh, sg, ta, ro, xn, xs)) else none
  | _ => none
theorem s_arraylength {M : ab_M} {i nx : Nat} (hd : decode (ab_by M) (ab_pc M i) = .ok (.arraylength, 1)) (hp : ab_pc M nx = ab_pc M i + 1) : ab_S M i (aLn nx) := by
  intro d b Po L st h i' L' st' h' hf kk p l e R s m args below meth c A D K as0 n0 mc ms fm X F as ls H locs cells slots Y hL hn hc hs
  unfold aLn at hf
  split at hf
  case h_2 => cases hf
  rename_i a r
  obtain ⟨sh, sg, ta, ro, xn, xs⟩ := h
  dsimp only at hf
  have e9 : ∀ c, 9000 ≤ c → as c = as0 c := fun c hc => Y.2.2.2.2.2 c (Or.inr (Or.inl hc))
  have k1 := fun (i' : Nat) (L' : ab_L) (st' : List Value) (z : ab_Z M d b Po i' L' st' (sh, sg, ta, ro, xn, xs)) => z p l e R s m args below meth c A D K as0 n0 mc ms fm X F as ls H locs cells slots Y
  split at hf
  · rename_i n hq
    cases hf
    have k' := k1 _ _ _ kk hL hn hc hs
    rw [hp] at k'
    have he := ab_w_get K as (sh, sg, ta, ro, xn, xs) (List.getElem?_eq_some_iff.mp hq).1
    rw [ab_cell_0 hq] at he
    exact va_alen F.1 F.2.1 F.2.2.2.2.2.2.2.2.2.1 Y.1 a 0 he rfl rfl hd k'
  · rename_i n hq
    cases hf
    have k' := k1 _ _ _ kk hL hn hc hs
    rw [hp] at k'
    have he := ab_w_get K as (sh, sg, ta, ro, xn, xs) (List.getElem?_eq_some_iff.mp hq).1
    rw [ab_cell_1 hq] at he
    exact va_alen F.1 F.2.1 F.2.2.2.2.2.2.2.2.2.1 Y.1 a 1 he rfl rfl hd k'
  · rename_i n hq
    cases hf
    have k' := k1 _ _ _ kk hL hn hc hs
    rw [hp] at k'
    have he := ab_w_get K as (sh, sg, ta, ro, xn, xs) (List.getElem?_eq_some_iff.mp hq).1
    rw [ab_cell_3 hq] at he
    exact va_alen F.1 F.2.1 F.2.2.2.2.2.2.2.2.2.1 Y.1 a 3 he rfl rfl hd k'
  · cases hf
  · rename_i hq
    have fSt := F.2.2.2.2.2.2.2.2.2.2.2.1
    rw [cond_eq_ite] at hf
    split at hf
    · rename_i ha
      have ha := Nat.beq_eq.mp ha
      subst ha
      cases hf
      have k' := k1 _ _ _ kk hL hn hc hs
      rw [hp] at k'
      show W p l e R s m args below meth c H locs cells slots _ (F0 m (ab_pc M i) ls (.ref (as 9000) :: r.map (ab_tr as)))
      rw [e9 9000 (Nat.le_refl _)]
      exact va_tlen F.1 F.2.1 fSt.1.2 Y.2.2.1 rfl hd k'
    rw [cond_eq_ite] at hf
    split at hf
    · rename_i ha
      have ha := Nat.beq_eq.mp ha
      subst ha
      cases hf
      have k' := k1 _ _ _ kk hL hn hc hs
      rw [hp] at k'
      have hX : (xn, xs) = X := Y.2.2.2.1.2.2.2.1
      subst hX
      show W p l e R s m args below meth c H locs cells slots _ (F0 m (ab_pc M i) ls (.ref (as 9001) :: r.map (ab_tr as)))
      rw [e9 9001 (by omega)]
      exact va_slen F.1 F.2.1 fSt.2.1.1 fSt.2.1.2.1 fSt.2.1.2.2 Y.2.2.1 hd k'
    rw [cond_eq_ite] at hf
    split at hf
    · rename_i ha
      have ha := Nat.beq_eq.mp ha
      subst ha
      cases hf
      have k' := k1 _ _ _ kk hL hn hc hs
      rw [hp] at k'
      show W p l e R s m args below meth c H locs cells slots _ (F0 m (ab_pc M i) ls (.ref (as 9004) :: r.map (ab_tr as)))
      rw [e9 9004 (by omega)]
      exact va_tlen F.1 F.2.1 (fSt.2.2.1.1.1 0 (by omega)).2.2.2 Y.2.2.1 rfl hd k'
    rw [cond_eq_ite] at hf
    split at hf
    · rename_i ha
      have ha := Nat.beq_eq.mp ha
      subst ha
      cases hf
      have k' := k1 _ _ _ kk hL hn hc hs
      rw [hp] at k'
      show W p l e R s m args below meth c H locs cells slots _ (F0 m (ab_pc M i) ls (.ref (as 9005) :: r.map (ab_tr as)))
      rw [e9 9005 (by omega)]
      exact va_tlen F.1 F.2.1 (fSt.2.2.1.1.1 1 (by omega)).2.2.2 Y.2.2.1 rfl hd k'
    cases hf
def aBA (nx : Nat) : ab_F := fun L st h => match st with
  | .int j :: .ref a :: r => match h with
    | (sh, sg, ta, ro, xn, xs) => match sh[a]? with
      | some (1, n) => if 0 ≤ j.toInt ∧ j.toInt < (n : Int) then some (nx, L, .int (sg a j.toNatClampNeg) :: r, (sh, sg, ta, ro, xn, xs)) else none
      | some (2, n) => if 0 ≤ j.toInt ∧ j.toInt < (n : Int) then some (nx, L, .int (sg a j.toNatClampNeg) :: r, (sh, sg, ta, ro, xn, xs)) else none
      | some _ => none
      | none => bif Nat.beq a 9004 then (if 0 ≤ j.toInt ∧ j.toInt < 119 then some (nx, L, .int ((ab_byt.getD 0 []).getD j.toNatClampNeg 0) :: r, (sh, sg, ta, ro, xn, xs)) else none) else bif Nat.beq a 9005 then (if 0 ≤ j.toInt ∧ j.toInt < 9 then some (nx, L, .int ((ab_byt.getD 1 []).getD j.toNatClampNeg 0) :: r, (sh, sg, ta, ro, xn, xs)) else none) else none
  | _ => none
theorem s_baload {M : ab_M} {i nx : Nat} (hd : decode (ab_by M) (ab_pc M i) = .ok (.baload, 1)) (hp : ab_pc M nx = ab_pc M i + 1) : ab_S M i (aBA nx) := by
  intro d b Po L st h i' L' st' h' hf kk p l e R s m args below meth c A D K as0 n0 mc ms fm X F as ls H locs cells slots Y hL hn hc hs
  unfold aBA at hf
  split at hf
  case h_2 => cases hf
  rename_i j a r
  obtain ⟨sh, sg, ta, ro, xn, xs⟩ := h
  dsimp only at hf
  have e9 : ∀ c, 9000 ≤ c → as c = as0 c := fun c hc => Y.2.2.2.2.2 c (Or.inr (Or.inl hc))
  have k1 := fun (i' : Nat) (L' : ab_L) (st' : List Value) (z : ab_Z M d b Po i' L' st' (sh, sg, ta, ro, xn, xs)) => z p l e R s m args below meth c A D K as0 n0 mc ms fm X F as ls H locs cells slots Y
  split at hf
  · rename_i n hq
    split at hf
    case isFalse => cases hf
    rename_i hin
    cases hf
    have k' := k1 _ _ _ kk hL hn hc hs
    rw [hp] at k'
    have he := ab_w_get K as (sh, sg, ta, ro, xn, xs) (List.getElem?_eq_some_iff.mp hq).1
    rw [ab_cell_1 hq] at he
    exact va_bald F.1 F.2.1 F.2.2.2.2.2.2.2.2.2.1 Y.1 a 1 he rfl (vp_in_iff.mpr hin) hd k'
  · rename_i n hq
    split at hf
    case isFalse => cases hf
    rename_i hin
    cases hf
    have k' := k1 _ _ _ kk hL hn hc hs
    rw [hp] at k'
    have he := ab_w_get K as (sh, sg, ta, ro, xn, xs) (List.getElem?_eq_some_iff.mp hq).1
    rw [ab_cell_2 hq] at he
    exact va_zald F.1 F.2.1 F.2.2.2.2.2.2.2.2.2.1 Y.1 a 2 he rfl (vp_in_iff.mpr hin) hd k'
  · cases hf
  · rename_i hq
    have fSt := F.2.2.2.2.2.2.2.2.2.2.2.1
    rw [cond_eq_ite] at hf
    split at hf
    · rename_i ha
      have ha := Nat.beq_eq.mp ha
      subst ha
      split at hf
      case isFalse => cases hf
      rename_i hin
      cases hf
      have k' := k1 _ _ _ kk hL hn hc hs
      rw [hp] at k'
      show W p l e R s m args below meth c H locs cells slots _ (F0 m (ab_pc M i) ls (.int j :: .ref (as 9004) :: r.map (ab_tr as)))
      rw [e9 9004 (by omega)]
      exact va_tb F.1 F.2.1 (fSt.2.2.1.1.1 0 (by omega)).2.2.2 Y.2.2.1 (vp_in_iff.mpr hin) rfl hd k'
    rw [cond_eq_ite] at hf
    split at hf
    · rename_i ha
      have ha := Nat.beq_eq.mp ha
      subst ha
      split at hf
      case isFalse => cases hf
      rename_i hin
      cases hf
      have k' := k1 _ _ _ kk hL hn hc hs
      rw [hp] at k'
      show W p l e R s m args below meth c H locs cells slots _ (F0 m (ab_pc M i) ls (.int j :: .ref (as 9005) :: r.map (ab_tr as)))
      rw [e9 9005 (by omega)]
      exact va_tb F.1 F.2.1 (fSt.2.2.1.1.1 1 (by omega)).2.2.2 Y.2.2.1 (vp_in_iff.mpr hin) rfl hd k'
    cases hf
def aLA (nx : Nat) : ab_F := fun L st h => match st with
  | .int j :: .ref a :: r => match h with
    | (sh, sg, ta, rr) => match sh[a]? with
      | some (3, n) => if 0 ≤ j.toInt ∧ j.toInt < (n : Int) then some (nx, L, .long (ta a j.toNatClampNeg) :: r, (sh, sg, ta, rr)) else none
      | _ => none
  | _ => none
theorem s_laload {M : ab_M} {i nx : Nat} (hd : decode (ab_by M) (ab_pc M i) = .ok (.laload, 1)) (hp : ab_pc M nx = ab_pc M i + 1) : ab_S M i (aLA nx) := by
  intro d b Po L st h i' L' st' h' hf kk p l e R s m args below meth c A D K as0 n0 mc ms fm X F as ls H locs cells slots Y hL hn hc hs
  unfold aLA at hf
  split at hf
  case h_2 => cases hf
  rename_i j a r
  obtain ⟨sh, sg, ta, ro, xn, xs⟩ := h
  dsimp only at hf
  split at hf
  case h_2 => cases hf
  rename_i n hq
  split at hf
  case isFalse => cases hf
  rename_i hin
  cases hf
  have k' := kk p l e R s m args below meth c A D K as0 n0 mc ms fm X F as ls H locs cells slots Y hL hn hc hs
  rw [hp] at k'
  have he := ab_w_get K as (sh, sg, ta, ro, xn, xs) (List.getElem?_eq_some_iff.mp hq).1
  rw [ab_cell_3 hq] at he
  exact va_lald F.1 F.2.1 F.2.2.2.2.2.2.2.2.2.1 Y.1 a 3 he rfl (vp_in_iff.mpr hin) hd k'
def aIS (nx : Nat) : ab_F := fun L st h => match st with
  | .int v :: .int j :: .ref a :: r => match h with
    | (sh, sg, ta, rr) => match sh[a]? with
      | some (0, n) => if 0 ≤ j.toInt ∧ j.toInt < (n : Int) then some (nx, L, r, (sh, ab_up sg a j.toNatClampNeg v, ta, rr)) else none
      | _ => none
  | _ => none
theorem s_iastore {M : ab_M} {i nx : Nat} (hd : decode (ab_by M) (ab_pc M i) = .ok (.iastore, 1)) (hp : ab_pc M nx = ab_pc M i + 1) : ab_S M i (aIS nx) := by
  intro d b Po L st h i' L' st' h' hf kk p l e R s m args below meth c A D K as0 n0 mc ms fm X F as ls H locs cells slots Y hL hn hc hs
  unfold aIS at hf
  split at hf
  case h_2 => cases hf
  rename_i v j a r
  obtain ⟨sh, sg, ta, ro, xn, xs⟩ := h
  dsimp only at hf
  split at hf
  · rename_i n hq
    split at hf
    case isFalse => cases hf
    rename_i hin
    cases hf
    have hl := (List.getElem?_eq_some_iff.mp hq).1
    have he := ab_w_get K as (sh, sg, ta, ro, xn, xs) hl
    rw [ab_cell_0 hq] at he
    have hset := ab_w_set K as (sh, sg, ta, ro, xn, xs) (sh, ab_up sg a j.toNatClampNeg v, ta, ro, xn, xs) a rfl (fun c' hc' => ab_cell_cg rfl (by show ab_up sg a j.toNatClampNeg _ c' = sg c'; exact ab_up_o hc') rfl (fun _ => rfl))
    rw [ab_cell_0 (h := (sh, ab_up sg a j.toNatClampNeg v, ta, ro, xn, xs)) hq] at hset
    refine va_iast F.1 F.2.1 F.2.2.2.2.2.2.2.2.2.1 Y.1 Y.2.1 Y.2.2.1 a 0 he rfl (vp_in_iff.mpr hin) hd fun H1 locs1 hP1 hD1 hS1 => ?_
    have k' := kk p l e R s m args below meth c A D K as0 n0 mc ms fm X F as ls H1 locs1 cells slots ⟨by rw [hset]; dsimp only; rw [ab_up_c]; exact hP1, by rw [hset]; dsimp only; rw [ab_up_c]; exact hD1, hS1, Y.2.2.2⟩ hL hn hc hs
    rw [hp] at k'
    exact k'
  · cases hf
def aBS (nx : Nat) : ab_F := fun L st h => match st with
  | .int v :: .int j :: .ref a :: r => match h with
    | (sh, sg, ta, rr) => match sh[a]? with
      | some (1, n) => if 0 ≤ j.toInt ∧ j.toInt < (n : Int) then some (nx, L, r, (sh, ab_up sg a j.toNatClampNeg v.toInt8.toInt32, ta, rr)) else none
      | some (2, n) => if 0 ≤ j.toInt ∧ j.toInt < (n : Int) then some (nx, L, r, (sh, ab_up sg a j.toNatClampNeg (v &&& 1), ta, rr)) else none
      | _ => none
  | _ => none
theorem s_bastore {M : ab_M} {i nx : Nat} (hd : decode (ab_by M) (ab_pc M i) = .ok (.bastore, 1)) (hp : ab_pc M nx = ab_pc M i + 1) : ab_S M i (aBS nx) := by
  intro d b Po L st h i' L' st' h' hf kk p l e R s m args below meth c A D K as0 n0 mc ms fm X F as ls H locs cells slots Y hL hn hc hs
  unfold aBS at hf
  split at hf
  case h_2 => cases hf
  rename_i v j a r
  obtain ⟨sh, sg, ta, ro, xn, xs⟩ := h
  dsimp only at hf
  split at hf
  · rename_i n hq
    split at hf
    case isFalse => cases hf
    rename_i hin
    cases hf
    have hl := (List.getElem?_eq_some_iff.mp hq).1
    have he := ab_w_get K as (sh, sg, ta, ro, xn, xs) hl
    rw [ab_cell_1 hq] at he
    have hset := ab_w_set K as (sh, sg, ta, ro, xn, xs) (sh, ab_up sg a j.toNatClampNeg v.toInt8.toInt32, ta, ro, xn, xs) a rfl (fun c' hc' => ab_cell_cg rfl (by show ab_up sg a j.toNatClampNeg _ c' = sg c'; exact ab_up_o hc') rfl (fun _ => rfl))
    rw [ab_cell_1 (h := (sh, ab_up sg a j.toNatClampNeg v.toInt8.toInt32, ta, ro, xn, xs)) hq] at hset
    refine va_bast F.1 F.2.1 F.2.2.2.2.2.2.2.2.2.1 Y.1 Y.2.1 Y.2.2.1 a 1 he rfl (vp_in_iff.mpr hin) hd fun H1 locs1 hP1 hD1 hS1 => ?_
    have k' := kk p l e R s m args below meth c A D K as0 n0 mc ms fm X F as ls H1 locs1 cells slots ⟨by rw [hset]; dsimp only; rw [ab_up_c]; exact hP1, by rw [hset]; dsimp only; rw [ab_up_c]; exact hD1, hS1, Y.2.2.2⟩ hL hn hc hs
    rw [hp] at k'
    exact k'
  · rename_i n hq
    split at hf
    case isFalse => cases hf
    rename_i hin
    cases hf
    have hl := (List.getElem?_eq_some_iff.mp hq).1
    have he := ab_w_get K as (sh, sg, ta, ro, xn, xs) hl
    rw [ab_cell_2 hq] at he
    have hset := ab_w_set K as (sh, sg, ta, ro, xn, xs) (sh, ab_up sg a j.toNatClampNeg (v &&& 1), ta, ro, xn, xs) a rfl (fun c' hc' => ab_cell_cg rfl (by show ab_up sg a j.toNatClampNeg _ c' = sg c'; exact ab_up_o hc') rfl (fun _ => rfl))
    rw [ab_cell_2 (h := (sh, ab_up sg a j.toNatClampNeg (v &&& 1), ta, ro, xn, xs)) hq] at hset
    refine va_zast F.1 F.2.1 F.2.2.2.2.2.2.2.2.2.1 Y.1 Y.2.1 Y.2.2.1 a 2 he rfl (vp_in_iff.mpr hin) hd fun H1 locs1 hP1 hD1 hS1 => ?_
    have k' := kk p l e R s m args below meth c A D K as0 n0 mc ms fm X F as ls H1 locs1 cells slots ⟨by rw [hset]; dsimp only; rw [ab_up_c]; exact hP1, by rw [hset]; dsimp only; rw [ab_up_c]; exact hD1, hS1, Y.2.2.2⟩ hL hn hc hs
    rw [hp] at k'
    exact k'
  · cases hf
def aLS (nx : Nat) : ab_F := fun L st h => match st with
  | .long v :: .int j :: .ref a :: r => match h with
    | (sh, sg, ta, rr) => match sh[a]? with
      | some (3, n) => if 0 ≤ j.toInt ∧ j.toInt < (n : Int) then some (nx, L, r, (sh, sg, ab_up ta a j.toNatClampNeg v, rr)) else none
      | _ => none
  | _ => none
theorem s_lastore {M : ab_M} {i nx : Nat} (hd : decode (ab_by M) (ab_pc M i) = .ok (.lastore, 1)) (hp : ab_pc M nx = ab_pc M i + 1) : ab_S M i (aLS nx) := by
  intro d b Po L st h i' L' st' h' hf kk p l e R s m args below meth c A D K as0 n0 mc ms fm X F as ls H locs cells slots Y hL hn hc hs
  unfold aLS at hf
  split at hf
  case h_2 => cases hf
  rename_i v j a r
  obtain ⟨sh, sg, ta, ro, xn, xs⟩ := h
  dsimp only at hf
  split at hf
  · rename_i n hq
    split at hf
    case isFalse => cases hf
    rename_i hin
    cases hf
    have hl := (List.getElem?_eq_some_iff.mp hq).1
    have he := ab_w_get K as (sh, sg, ta, ro, xn, xs) hl
    rw [ab_cell_3 hq] at he
    have hset := ab_w_set K as (sh, sg, ta, ro, xn, xs) (sh, sg, ab_up ta a j.toNatClampNeg v, ro, xn, xs) a rfl (fun c' hc' => ab_cell_cg rfl rfl (by show ab_up ta a j.toNatClampNeg _ c' = ta c'; exact ab_up_o hc') (fun _ => rfl))
    rw [ab_cell_3 (h := (sh, sg, ab_up ta a j.toNatClampNeg v, ro, xn, xs)) hq] at hset
    refine va_last F.1 F.2.1 F.2.2.2.2.2.2.2.2.2.1 Y.1 Y.2.1 Y.2.2.1 a 3 he rfl (vp_in_iff.mpr hin) hd fun H1 locs1 hP1 hD1 hS1 => ?_
    have k' := kk p l e R s m args below meth c A D K as0 n0 mc ms fm X F as ls H1 locs1 cells slots ⟨by rw [hset]; dsimp only; rw [ab_up_c]; exact hP1, by rw [hset]; dsimp only; rw [ab_up_c]; exact hD1, hS1, Y.2.2.2⟩ hL hn hc hs
    rw [hp] at k'
    exact k'
  · cases hf
