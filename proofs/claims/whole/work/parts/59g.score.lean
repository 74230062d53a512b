/-! plans: what they score -/
theorem sumZ_sw (f : Nat → Nat → Int) (m : Nat) : ∀ n, sumZ (fun c => sumZ (fun e => f c e) m) n = sumZ (fun e => sumZ (fun c => f c e) n) m
  | 0 => (sumZ_0 (fun _ _ => rfl)).symm
  | n + 1 => by
    rw [sumZ, sumZ_sw f m n, ← sumZ_add]
    exact sumZ_cg (fun e _ => by rw [sumZ])
theorem sumZ_one (g : Nat → Int) (d : Nat) : ∀ n, sumZ (fun c => if d = c + 1 then g c else 0) n = if d = 0 then 0 else if d ≤ n then g (d - 1) else 0
  | 0 => by
    rw [sumZ]
    by_cases h : d = 0
    · rw [if_pos h]
    · rw [if_neg h, if_neg (by omega)]
  | n + 1 => by
    rw [sumZ, sumZ_one g d n]
    by_cases h : d = 0
    · rw [if_pos h, if_pos h, if_neg (by omega)]; rfl
    · rw [if_neg h, if_neg h]
      by_cases h1 : d = n + 1
      · rw [if_neg (by omega), if_pos h1, if_pos (by omega), h1]
        simp
      · rw [if_neg h1]
        by_cases h2 : d ≤ n
        · rw [if_pos h2, if_pos (by omega)]; simp
        · rw [if_neg h2, if_neg (by omega)]; rfl
theorem sc_t {b : Int32} (h : 0 ≤ b.toInt ∧ b.toInt ≤ 99) {c : Nat} (hc : c < 5) (e : Nat) : (b * 46656 - (nI c + 1) * ab_wgI e).toInt = b.toInt * 46656 - (c + 1 : Int) * wgZ e ∧ -38880 ≤ b.toInt * 46656 - (c + 1 : Int) * wgZ e ∧ b.toInt * 46656 - (c + 1 : Int) * wgZ e ≤ 4618944 := by
  obtain ⟨w1, w2, w3⟩ := wg_Z e
  have h46 : (46656 : Int32).toInt = 46656 := by decide
  have hc1 : (nI c + 1).toInt = (c + 1 : Int) := by rw [← nI_succ, nI_t (by omega)]; rfl
  have hp : 0 ≤ (c + 1 : Int) * wgZ e ∧ (c + 1 : Int) * wgZ e ≤ 38880 := by
    refine ⟨Int.mul_nonneg (by omega) w2, ?_⟩
    have h1 : (c + 1 : Int) * wgZ e ≤ 5 * wgZ e := Int.mul_le_mul_of_nonneg_right (by omega) w2
    omega
  have m1 : (b * 46656).toInt = b.toInt * 46656 := by rw [i_mulI (by rw [h46]; omega) (by rw [h46]; omega), h46]
  have m2 : ((nI c + 1) * ab_wgI e).toInt = (c + 1 : Int) * wgZ e := by rw [i_mulI (by rw [hc1, w1]; omega) (by rw [hc1, w1]; omega), hc1, w1]
  refine ⟨?_, by omega, by omega⟩
  rw [i_subI (by rw [m1, m2]; omega) (by rw [m1, m2]; omega), m1, m2]
theorem scF_z (s : Nat → Nat → Int32) (PB : List (List Ins)) {c : Nat} (hc : c < 5) (A : Nat) (n : Int32) (pr : Nat → Int32) : ∀ k, k ≤ 6 → (scF s PB c A n pr k).toInt = sumZ (fun e => if A.testBit e = true then (bdF PB (s 16 c + s 11 39) (s 19 e) (s 11 39) n (nI c) (pr e)).toInt * 46656 - (c + 1 : Int) * wgZ e else 0) k ∧ (k : Int) * (-38880) ≤ (scF s PB c A n pr k).toInt ∧ (scF s PB c A n pr k).toInt ≤ (k : Int) * 4618944
  | 0, _ => ⟨rfl, by simp [scF], by simp [scF]⟩
  | k + 1, hk => by
    obtain ⟨h1, h2, h3⟩ := scF_z s PB hc A n pr k (by omega)
    have hcast : ((k + 1 : Nat) : Int) = (k : Int) + 1 := rfl
    rw [hcast, Int.add_mul, Int.add_mul, sumZ, scF]
    by_cases hb : A.testBit k = true
    · rw [if_pos hb, if_pos hb]
      obtain ⟨t1, t2, t3⟩ := sc_t (b := bdF PB (s 16 c + s 11 39) (s 19 k) (s 11 39) n (nI c) (pr k)) (held_r _ (m := 99) (by decide)) hc k
      have hk6 : (k : Int) ≤ 5 := by omega
      rw [i_addI (by rw [t1]; omega) (by rw [t1]; omega), t1, h1]
      rw [h1] at h2 h3
      exact ⟨rfl, by omega, by omega⟩
    · rw [if_neg hb, if_neg hb, h1]
      rw [h1] at h2 h3
      exact ⟨by omega, by omega, by omega⟩
section
variable {V : Nat → Nat → Int32} {PT PB : List (List Ins)} {nc nd : Nat} {D : Nat → Nat}
theorem plS_r {c A : Nat} (hc : c < 5) : -300000 ≤ (plS V PT PB nd c A).toInt ∧ (plS V PT PB nd c A).toInt ≤ 28000000 := by
  unfold plS
  obtain ⟨-, h2, h3⟩ := scF_z V PB hc A (plN V nd c A) (plP V PT nd c A) 6 (Nat.le_refl _)
  omega
theorem plS_0 (c : Nat) : plS V PT PB nd c 0 = 0 := by
  unfold plS
  have : ∀ k n pr, scF V PB c 0 n pr k = 0 := by
    intro k n pr
    induction k with
    | zero => rfl
    | succ k ih => rw [scF, Nat.zero_testBit, if_neg (by decide), ih]
  exact this _ _ _
def plM (V : Nat → Nat → Int32) (PT PB : List (List Ins)) (nd : Nat) (D : Nat → Nat) : Int := sumZ (fun e => (plB V PT PB nd D e).toInt) 6
theorem scI_pl (hnc : nc ≤ 5) (h5 : ∀ e, D e ≤ nc) : scI (fun c => plS V PT PB nd c) D nc = 46656 * plM V PT PB nd D - wyC D 6 := by
  unfold scI
  rw [sumZ_cg (g := fun c => sumZ (fun e => if D e = c + 1 then (bdF PB (V 16 c + V 11 39) (V 19 e) (V 11 39) (plN V nd c (dgA D c)) (nI c) (plP V PT nd c (dgA D c) e)).toInt * 46656 - (c + 1 : Int) * wgZ e else 0) 6) (fun c hc => ?_)]
  · rw [sumZ_sw, sumZ_cg (g := fun e => 46656 * (plB V PT PB nd D e).toInt + -((D e : Int) * wgZ e)) (fun e he => ?_)]
    · rw [sumZ_add, wyC_6]
      unfold plM
      simp only [sumZ]
      omega
    · rw [sumZ_one (fun c => (bdF PB (V 16 c + V 11 39) (V 19 e) (V 11 39) (plN V nd c (dgA D c)) (nI c) (plP V PT nd c (dgA D c) e)).toInt * 46656 - (c + 1 : Int) * wgZ e)]
      unfold plB
      by_cases h0 : D e = 0
      · rw [if_pos h0, if_pos h0, h0]
        simp
      · rw [if_neg h0, if_neg h0, if_pos (h5 e), show ((D e - 1 : Nat) : Int) + 1 = (D e : Int) by omega]
        generalize (D e : Int) * wgZ e = z
        omega
  · show (plS V PT PB nd c (dgA D c)).toInt = _
    unfold plS
    rw [(scF_z V PB (show c < 5 by omega) (dgA D c) (plN V nd c (dgA D c)) (plP V PT nd c (dgA D c)) 6 (Nat.le_refl _)).1]
    refine sumZ_cg (fun e he => ?_)
    rw [dgA_tb, decide_eq_true he, Bool.true_and]
    by_cases hd : D e = c + 1
    · rw [decide_eq_true hd, if_pos rfl, if_pos hd]
    · rw [decide_eq_false hd, if_neg (by decide), if_neg hd]
theorem plM_r : 0 ≤ plM V PT PB nd D ∧ plM V PT PB nd D ≤ 594 := by
  unfold plM
  have := sumZ_rng (f := fun e => (plB V PT PB nd D e).toInt) (a := 0) (b := 99) (n := 6) (fun k _ => plB_r V PT PB nd D k)
  omega
/-- the plan that binds most, and of such the first, is the one that the score tells -/
theorem all_pure (h6 : nd ≤ 6) (hnc : nc ≤ 5) (hO : dgO (opN V nd) D) (h5 : ∀ e, D e ≤ nc) (hok : okD V PT nd D nd = true) (hb : ∀ D', dgO (opN V nd) D' → (∀ e, D' e ≤ nc) → okD V PT nd D' nd = true → plM V PT PB nd D' < plM V PT PB nd D ∨ plM V PT PB nd D' = plM V PT PB nd D ∧ wyC D 6 ≤ wyC D' 6) : (bbF (bstV V PT PB nc nd)).toInt = plM V PT PB nd D ∧ ∀ e, e < 6 → slrV (bstV V PT PB nc nd) e = if D e = 0 then -2 else nI (D e - 1) := by
  obtain ⟨⟨D1, d1, d2, d3, d4⟩, u⟩ := bst_all (C := fun c => plC V PT nd c (opN V nd)) (sc := fun c => plS V PT PB nd c) (op := opN V nd) (nc := nc) hnc (opN_lt V h6) (fun c => plC_0 V PT nd c _) (fun c => plS_0 c) (fun c P hc _ => plS_r hc)
  have hB : mvF (bsG (fun c => plC V PT nd c (opN V nd)) (fun c => plS V PT PB nd c) (opN V nd) nc) 64 = bstV V PT PB nc nd := by
    unfold bstV
    rw [bsB_G]
  rw [hB] at d4 u
  have hx : (bstV V PT PB nc nd).toInt = 46656 * plM V PT PB nd D - wyC D 6 := by
    have h1 := u D hO h5 ((ok_V h6 hO h5 hnc).mp hok)
    rw [scI_pl hnc h5] at h1
    rw [scI_pl hnc d2] at d4
    have h2 := hb D1 d1 d2 ((ok_V h6 d1 d2 hnc).mpr d3)
    have h3 := (wyC_dg (D := D) (fun e => by have := h5 e; omega)).1
    have h4 := (wyC_dg (D := D1) (fun e => by have := d2 e; omega)).1
    omega
  have hr := plM_r (V := V) (PT := PT) (PB := PB) (nd := nd) (D := D)
  have h3 := (wyC_dg (D := D) (fun e => by have := h5 e; omega)).1
  exact ⟨bb_at hx hr.1 (by omega) (by omega) (by omega), fun e he => slr_at (fun e => by have := h5 e; omega) hx hr.1 (by omega) he⟩
end

