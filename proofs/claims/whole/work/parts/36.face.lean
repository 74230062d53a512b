/-! the face, third part -/
def prW (ok : Nat → Nat → Bool) (df : Nat → Nat → Int32) (n : Nat) : Int32 × Int32 := prO ok df n n
def likB (s : Nat → Nat → Int32) (a b : Nat) : Bool := !openB s a && !openB s b
def twnV (s : Nat → Nat → Int32) (f a b : Nat) : Int32 := absF (s 11 (3 * a + f) - s 11 (3 * b + f))
theorem L10 : (10 : Int32) = nI 10 := rfl
theorem pr_ix (a o : Nat) : (10 : Int32) * nI a + nI o = nI (10 * a + o) := by rw [L10, pk_mul, nI_add]
theorem fitB_cg {s s' : Nat → Nat → Int32} {pr pr' : Nat → Int32} (h2 : s' 42 = s 42) (h3 : s' 43 = s 43) (h4 : s' 44 = s 44) : ∀ {k : Nat}, (∀ i, i < k → ∃ f, f < 3 ∧ s 42 i = nI f) → (∀ f, f < 3 → pr' f = pr f) → fitB s' pr' k = fitB s pr k
  | 0, _, _ => rfl
  | k + 1, hf, hp => by
    obtain ⟨f, hf3, hfe⟩ := hf k (by omega)
    rw [fitB, fitB, fitB_cg h2 h3 h4 (fun i hi => hf i (by omega)) hp, h2, h3, h4, hfe, nI_c (by omega), hp f hf3]
theorem Kp2.row {s s' : Nat → Nat → Int32} (h : Kp2 s s') {c : Nat} (hc : ∀ k, scr1 c k = false) (h13 : c ≠ 13) : s' c = s c := funext fun k => h c k (hc k) h13
theorem fdA_kp {s s' : Nat → Nat → Int32} (h : Kp2 s s') (PF : List (List Ins)) (e f : Nat) : ∀ k, fdA s' PF e f k = fdA s PF e f k
  | 0 => h 11 _ rfl (by decide)
  | k + 1 => by rw [fdA, fdA, fdA_kp h PF e f k, fdV_kp h, h 11 39 rfl (by decide)]
def susB (s : Nat → Nat → Int32) (PT : List (List Ins)) (nd e k c : Nat) : Bool := canB s PT nd c e && fitB s (TV s PT nd c e) k
def soN (s : Nat → Nat → Int32) (PT : List (List Ins)) (nd e f : Nat) (v b : Int32) (c : Nat) : Bool := hbF b (nI c) && !decide (TV s PT nd c e f < v)
def noN (s : Nat → Nat → Int32) (PT : List (List Ins)) (nd e f : Nat) (v b : Int32) (c : Nat) : Bool := hbF b (nI c) && decide (TV s PT nd c e f < v)
def wrsV (s : Nat → Nat → Int32) (PT : List (List Ins)) (nc nd e : Nat) (v b : Int32) (f : Nat) : Int32 := if nI (cntN (soN s PT nd e f v b) nc) < nI (cntN (noN s PT nd e f v b) nc) then nI (cntN (noN s PT nd e f v b) nc) else nI (cntN (soN s PT nd e f v b) nc)
def lokV (g : Nat → Int32) (b : Int32) : Nat → Int32 × Int32
  | 0 => (-2, bcF b + 1)
  | f + 1 => if g f < (lokV g b f).2 then (nI f, g f) else lokV g b f
theorem soN_kp {s s' : Nat → Nat → Int32} (h : Kp2 s s') (PT : List (List Ins)) (nd e f : Nat) (v b : Int32) (c : Nat) : soN s' PT nd e f v b c = soN s PT nd e f v b c := by
  unfold soN
  rw [TV_kp h]
theorem noN_kp {s s' : Nat → Nat → Int32} (h : Kp2 s s') (PT : List (List Ins)) (nd e f : Nat) (v b : Int32) (c : Nat) : noN s' PT nd e f v b c = noN s PT nd e f v b c := by
  unfold noN
  rw [TV_kp h]
theorem wrsV_kp {s s' : Nat → Nat → Int32} (h : Kp2 s s') (PT : List (List Ins)) (nc nd e : Nat) (v b : Int32) (f : Nat) : wrsV s' PT nc nd e v b f = wrsV s PT nc nd e v b f := by
  unfold wrsV
  rw [cntN_cg (q := soN s PT nd e f v b) (fun k _ => soN_kp h PT nd e f v b k), cntN_cg (q := noN s PT nd e f v b) (fun k _ => noN_kp h PT nd e f v b k)]
section
variable (d : Nat) (fm : Value) (X : Nat × (Nat → Int32)) (s : Nat → Nat → Int32) (t : Nat → Nat → Int64)
variable {nc nd nt : Nat} {PT PG PB PF : List (List Ins)}
theorem t_SF_like (hC : CI s nc nd nt PT PG PB PF) (w : Int32) : ab_T g_SF_like (d + 3) (0, 0) [.ref 0, .int w] (HA fm X s t) (P2 (if w = 0 ∨ w = 1 then selA (prW (likB s) (aptV s) nd) w else -1) fm X s t) := by
  have h6 : nd ≤ 6 := hC.1.2.2.2.1
  refine ab_T_of (M := m_SF_like) rfl rfl (Nat.le_of_ble_eq_true rfl) ?_
  show ab_Z m_SF_like _ _ _ 0 [_, _, _, _, _, _, _, _] [] _
  refine ab_go ok_SF_like 1 rfl ?_
  show ab_Z m_SF_like _ _ _ 1 [_, _, _, _, _, _, _, _] [_] _
  refine ab_cl ok_SF_like rfl [_] [] rfl rfl (Nat.le_of_ble_eq_true rfl) (t_SF_isHow (d + 2) _ w) ?_
  rintro _ _ ⟨rfl, rfl⟩
  show ab_Z m_SF_like _ _ _ 2 [_, _, _, _, _, _, _, _] [_] _
  refine ab_br ok_SF_like rfl rfl ?_ ?_
  · intro h1
    show ab_Z m_SF_like _ _ _ 3 [_, _, _, _, _, _, _, _] [] _
    refine ab_go ok_SF_like 1 rfl ?_
    show ab_Z m_SF_like _ _ _ 4 [_, _, _, _, _, _, _, _] [_] _
    exact ab_rI ok_SF_like rfl (⟨by rw [if_neg (bI_0.mp h1)], s, rfl, Kp2.rf s⟩)
  · intro h1
    show ab_Z m_SF_like _ _ _ 5 [_, _, _, _, _, _, _, _] [] _
    have h2 := bI_n0 h1
    rw [if_pos h2]
    clear h1
    refine ab_go ok_SF_like 6 rfl ?_
    show ab_Z m_SF_like _ _ _ 11 [_, _, _, _, _, _, _, _] [] _
    refine lp_dn nd (fun a => ab_Z m_SF_like (d + 3) (0, 0) (P2 (selA (prW (likB s) (aptV s) nd) w) fm X s t) 11 [some (.ref 0), some (.int w), some (.int (prO (likB s) (aptV s) nd a).1), some (.int (prO (likB s) (aptV s) nd a).2), some (.int (nI a)), none, none, none] [] (HA fm X s t)) ?_ ?_
    · refine ab_go ok_SF_like 5 rfl ?_
      show ab_Z m_SF_like _ _ _ 16 [_, _, _, _, _, _, _, _] [_, _] _
      rw [hC.1.2.2.1]
      refine ab_br ok_SF_like rfl rfl ?_ ?_
      · intro h1
        show ab_Z m_SF_like _ _ _ 67 [_, _, _, _, _, _, _, _] [] _
        refine ab_go ok_SF_like 1 rfl ?_
        show ab_Z m_SF_like _ _ _ 68 [_, _, _, _, _, _, _, _] [_] _
        refine ab_br ok_SF_like rfl rfl ?_ ?_
        · intro h3
          show ab_Z m_SF_like _ _ _ 69 [_, _, _, _, _, _, _, _] [] _
          refine ab_go ok_SF_like 2 rfl ?_
          show ab_Z m_SF_like _ _ _ 72 [_, _, _, _, _, _, _, _] [_] _
          exact ab_rI ok_SF_like rfl (⟨by rw [selA, if_pos h3]; rfl, s, rfl, Kp2.rf s⟩)
        · intro h3
          show ab_Z m_SF_like _ _ _ 71 [_, _, _, _, _, _, _, _] [] _
          refine ab_go ok_SF_like 1 rfl ?_
          show ab_Z m_SF_like _ _ _ 72 [_, _, _, _, _, _, _, _] [_] _
          exact ab_rI ok_SF_like rfl (⟨by rw [selA, if_neg h3]; rfl, s, rfl, Kp2.rf s⟩)
      · intro h1
        show ab_Z m_SF_like _ _ _ 17 [_, _, _, _, _, _, _, _] [] _
        exact absurd (lp_out nd) h1
    · intro a ha ih
      refine ab_go ok_SF_like 5 rfl ?_
      show ab_Z m_SF_like _ _ _ 16 [_, _, _, _, _, _, _, _] [_, _] _
      rw [hC.1.2.2.1]
      refine ab_br ok_SF_like rfl rfl ?_ ?_
      · intro h1
        show ab_Z m_SF_like _ _ _ 67 [_, _, _, _, _, _, _, _] [] _
        exact absurd h1 (lp_in (by omega) ha)
      · intro h1
        show ab_Z m_SF_like _ _ _ 17 [_, _, _, _, _, _, _, _] [] _
        refine ab_go ok_SF_like 4 rfl ?_
        show ab_Z m_SF_like _ _ _ 21 [_, _, _, _, _, _, _, _] [] _
        rw [← nI_succ a]
        refine lp_dn (nd - (a + 1)) (fun j => ab_Z m_SF_like (d + 3) (0, 0) (P2 (selA (prW (likB s) (aptV s) nd) w) fm X s t) 21 [some (.ref 0), some (.int w), some (.int (prI (likB s) (aptV s) a (prO (likB s) (aptV s) nd a) j).1), some (.int (prI (likB s) (aptV s) a (prO (likB s) (aptV s) nd a) j).2), some (.int (nI a)), some (.int (nI (a + 1 + j))), none, none] [] (HA fm X s t)) ?_ ?_
        · refine ab_go ok_SF_like 5 rfl ?_
          show ab_Z m_SF_like _ _ _ 26 [_, _, _, _, _, _, _, _] [_, _] _
          rw [hC.1.2.2.1, show a + 1 + (nd - (a + 1)) = nd by omega]
          refine ab_br ok_SF_like rfl rfl ?_ ?_
          · intro h1
            show ab_Z m_SF_like _ _ _ 65 [_, _, _, _, _, _, _, _] [] _
            refine ab_go ok_SF_like 2 rfl ?_
            show ab_Z m_SF_like _ _ _ 11 [_, _, _, _, _, _, _, _] [] _
            rw [prO, nI_succ] at ih
            exact ih
          · intro h1
            show ab_Z m_SF_like _ _ _ 27 [_, _, _, _, _, _, _, _] [] _
            exact absurd (lp_out nd) h1
        · intro j hj ih3
          have ho : a + 1 + j < nd := by omega
          generalize hp : prI (likB s) (aptV s) a (prO (likB s) (aptV s) nd a) j = p
          rw [prI, hp, prS, show a + 1 + (j + 1) = a + 1 + j + 1 by omega, nI_succ (a + 1 + j)] at ih3
          refine ab_go ok_SF_like 5 rfl ?_
          show ab_Z m_SF_like _ _ _ 26 [_, _, _, _, _, _, _, _] [_, _] _
          rw [hC.1.2.2.1]
          refine ab_br ok_SF_like rfl rfl ?_ ?_
          · intro h1
            show ab_Z m_SF_like _ _ _ 65 [_, _, _, _, _, _, _, _] [] _
            exact absurd h1 (lp_in (by omega) ho)
          · intro h1
            show ab_Z m_SF_like _ _ _ 27 [_, _, _, _, _, _, _, _] [] _
            refine ab_go ok_SF_like 4 rfl ?_
            show ab_Z m_SF_like _ _ _ 31 [_, _, _, _, _, _, _, _] [_, _, _] _
            refine ab_cl ok_SF_like rfl [_, _, _] [] rfl ⟨_, _, rfl, rfl, Or.inl ⟨_, _, rfl, rfl⟩⟩ (Nat.le_of_ble_eq_true rfl) (t_Ha_printsDiffer d fm X s t (show a < 6 by omega) (show a + 1 + j < 6 by omega)) ?_
            rintro _ _ ⟨rfl, rfl⟩
            show ab_Z m_SF_like _ _ _ 32 [_, _, _, _, _, _, _, _] [_] _
            rw [show sumV (fun f => absF (s 11 (15 + 3 * a + f) - s 11 (15 + 3 * (a + 1 + j) + f))) 3 = aptV s a (a + 1 + j) from rfl]
            refine ab_go ok_SF_like 4 rfl ?_
            show ab_Z m_SF_like _ _ _ 36 [_, _, _, _, _, _, _, _] [_, _] _
            refine ab_cl ok_SF_like rfl [_, _] [] rfl ⟨_, _, rfl, rfl, Or.inl ⟨_, _, rfl, rfl⟩⟩ (Nat.le_of_ble_eq_true rfl) (t_Ha_isOpen' (d + 1) fm X s t ha hC.1.2.2.1 h6) ?_
            rintro _ _ ⟨rfl, rfl⟩
            show ab_Z m_SF_like _ _ _ 37 [_, _, _, _, _, _, _, _] [_] _
            rw [show decide (s 11 (33 + a) = -2) = openB s a from rfl]
            have hn : likB s a (a + 1 + j) = false → ab_Z m_SF_like (d + 3) (0, 0) (P2 (selA (prW (likB s) (aptV s) nd) w) fm X s t) 63 [some (.ref 0), some (.int w), some (.int p.1), some (.int p.2), some (.int (nI a)), some (.int (nI (a + 1 + j))), some (.int (aptV s a (a + 1 + j))), some (.int 0)] [] (HA fm X s t) := by
              intro hl
              rw [if_neg (fun q => by rw [hl] at q; exact absurd q.1 (by decide))] at ih3
              refine ab_go ok_SF_like 2 rfl ?_
              show ab_Z m_SF_like _ _ _ 21 [_, _, _, _, _, _, _, _] [] _
              exact ih3
            refine ab_br ok_SF_like rfl rfl ?_ ?_
            · intro h2
              show ab_Z m_SF_like _ _ _ 38 [_, _, _, _, _, _, _, _] [] _
              refine ab_go ok_SF_like 3 rfl ?_
              show ab_Z m_SF_like _ _ _ 41 [_, _, _, _, _, _, _, _] [_, _] _
              refine ab_cl ok_SF_like rfl [_, _] [] rfl ⟨_, _, rfl, rfl, Or.inl ⟨_, _, rfl, rfl⟩⟩ (Nat.le_of_ble_eq_true rfl) (t_Ha_isOpen' (d + 1) fm X s t ho hC.1.2.2.1 h6) ?_
              rintro _ _ ⟨rfl, rfl⟩
              show ab_Z m_SF_like _ _ _ 42 [_, _, _, _, _, _, _, _] [_] _
              rw [show decide (s 11 (33 + (a + 1 + j)) = -2) = openB s (a + 1 + j) from rfl]
              refine ab_br ok_SF_like rfl rfl ?_ ?_
              · intro h3
                show ab_Z m_SF_like _ _ _ 43 [_, _, _, _, _, _, _, _] [] _
                have hl : likB s a (a + 1 + j) = true := by rw [likB, bB_0.mp h2, bB_0.mp h3]; rfl
                refine ab_go ok_SF_like 4 rfl ?_
                show ab_Z m_SF_like _ _ _ 48 [_, _, _, _, _, _, _, _] [_] _
                refine ab_go ok_SF_like 1 rfl ?_
                show ab_Z m_SF_like _ _ _ 49 [_, _, _, _, _, _, _, _] [] _
                refine ab_go ok_SF_like 2 rfl ?_
                show ab_Z m_SF_like _ _ _ 51 [_, _, _, _, _, _, _, _] [_, _] _
                refine ab_br ok_SF_like rfl rfl ?_ ?_
                · intro h4
                  show ab_Z m_SF_like _ _ _ 55 [_, _, _, _, _, _, _, _] [] _
                  rw [if_pos ⟨hl, Or.inl h4⟩, ← pr_ix] at ih3
                  refine ab_go ok_SF_like 10 rfl ?_
                  show ab_Z m_SF_like _ _ _ 21 [_, _, _, _, _, _, _, _] [] _
                  exact ih3
                · intro h4
                  show ab_Z m_SF_like _ _ _ 52 [_, _, _, _, _, _, _, _] [] _
                  refine ab_go ok_SF_like 2 rfl ?_
                  show ab_Z m_SF_like _ _ _ 54 [_, _, _, _, _, _, _, _] [_, _] _
                  refine ab_br ok_SF_like rfl rfl ?_ ?_
                  · intro h5
                    show ab_Z m_SF_like _ _ _ 63 [_, _, _, _, _, _, _, _] [] _
                    rw [if_neg (fun q => q.2.elim h4 (fun z => by have := i_lt z; have := i_le h5; omega))] at ih3
                    refine ab_go ok_SF_like 2 rfl ?_
                    show ab_Z m_SF_like _ _ _ 21 [_, _, _, _, _, _, _, _] [] _
                    exact ih3
                  · intro h5
                    show ab_Z m_SF_like _ _ _ 55 [_, _, _, _, _, _, _, _] [] _
                    rw [if_pos ⟨hl, Or.inr (Int32.lt_iff_toInt_lt.mpr (i_nle h5))⟩, ← pr_ix] at ih3
                    refine ab_go ok_SF_like 10 rfl ?_
                    show ab_Z m_SF_like _ _ _ 21 [_, _, _, _, _, _, _, _] [] _
                    exact ih3
              · intro h3
                show ab_Z m_SF_like _ _ _ 45 [_, _, _, _, _, _, _, _] [] _
                refine ab_go ok_SF_like 3 rfl ?_
                show ab_Z m_SF_like _ _ _ 48 [_, _, _, _, _, _, _, _] [_] _
                refine ab_go ok_SF_like 1 rfl ?_
                show ab_Z m_SF_like _ _ _ 63 [_, _, _, _, _, _, _, _] [] _
                exact hn (by rw [likB, bB_n0 h3, Bool.not_true, Bool.and_false])
            · intro h2
              show ab_Z m_SF_like _ _ _ 45 [_, _, _, _, _, _, _, _] [] _
              refine ab_go ok_SF_like 3 rfl ?_
              show ab_Z m_SF_like _ _ _ 48 [_, _, _, _, _, _, _, _] [_] _
              refine ab_go ok_SF_like 1 rfl ?_
              show ab_Z m_SF_like _ _ _ 63 [_, _, _, _, _, _, _, _] [] _
              exact hn (by rw [likB, bB_n0 h2]; rfl)
theorem t_SF_twins (hC : CI s nc nd nt PT PG PB PF) (x w : Int32) : ab_T g_SF_twins (d + 3) (0, 0) [.ref 0, .int x, .int w] (HA fm X s t) (P2 (if inR 3 x ∧ (w = 0 ∨ w = 1) then selA (prW (fun _ _ => true) (twnV s x.toNatClampNeg) nc) w else -1) fm X s t) := by
  have h5 : nc ≤ 5 := hC.1.2.1
  refine ab_T_of (M := m_SF_twins) rfl rfl (Nat.le_of_ble_eq_true rfl) ?_
  show ab_Z m_SF_twins _ _ _ 0 [_, _, _, _, _, _, _, _] [] _
  refine ab_go ok_SF_twins 1 rfl ?_
  show ab_Z m_SF_twins _ _ _ 1 [_, _, _, _, _, _, _, _] [_] _
  refine ab_cl ok_SF_twins rfl [_] [] rfl rfl (Nat.le_of_ble_eq_true rfl) (t_SF_isFeature (d + 2) _ x) ?_
  rintro _ _ ⟨rfl, rfl⟩
  show ab_Z m_SF_twins _ _ _ 2 [_, _, _, _, _, _, _, _] [_] _
  refine ab_br ok_SF_twins rfl rfl ?_ ?_
  · intro h1
    show ab_Z m_SF_twins _ _ _ 6 [_, _, _, _, _, _, _, _] [] _
    refine ab_go ok_SF_twins 1 rfl ?_
    show ab_Z m_SF_twins _ _ _ 7 [_, _, _, _, _, _, _, _] [_] _
    exact ab_rI ok_SF_twins rfl (⟨by rw [if_neg (fun q => bI_0.mp h1 q.1)], s, rfl, Kp2.rf s⟩)
  · intro h1
    show ab_Z m_SF_twins _ _ _ 3 [_, _, _, _, _, _, _, _] [] _
    refine ab_go ok_SF_twins 1 rfl ?_
    show ab_Z m_SF_twins _ _ _ 4 [_, _, _, _, _, _, _, _] [_] _
    refine ab_cl ok_SF_twins rfl [_] [] rfl rfl (Nat.le_of_ble_eq_true rfl) (t_SF_isHow (d + 2) _ w) ?_
    rintro _ _ ⟨rfl, rfl⟩
    show ab_Z m_SF_twins _ _ _ 5 [_, _, _, _, _, _, _, _] [_] _
    refine ab_br ok_SF_twins rfl rfl ?_ ?_
    · intro h2
      show ab_Z m_SF_twins _ _ _ 6 [_, _, _, _, _, _, _, _] [] _
      refine ab_go ok_SF_twins 1 rfl ?_
      show ab_Z m_SF_twins _ _ _ 7 [_, _, _, _, _, _, _, _] [_] _
      exact ab_rI ok_SF_twins rfl (⟨by rw [if_neg (fun q => bI_0.mp h2 q.2)], s, rfl, Kp2.rf s⟩)
    · intro h2
      show ab_Z m_SF_twins _ _ _ 8 [_, _, _, _, _, _, _, _] [] _
      have g1 : inR 3 x := bI_n0 h1
      have g2 := bI_n0 h2
      rw [if_pos ⟨g1, g2⟩]
      clear h1 h2
      obtain ⟨f, hf, rfl⟩ := inR_nat g1
      rw [nI_c (by omega)]
      refine ab_go ok_SF_twins 6 rfl ?_
      show ab_Z m_SF_twins _ _ _ 14 [_, _, _, _, _, _, _, _] [] _
      generalize hok : (fun _ _ => true : Nat → Nat → Bool) = ok
      have hok2 : ∀ a b, ok a b = true := fun a b => by rw [← hok]
      refine lp_dn nc (fun a => ab_Z m_SF_twins (d + 3) (0, 0) (P2 (selA (prW ok (twnV s f) nc) w) fm X s t) 14 [some (.ref 0), some (.int (nI f)), some (.int w), some (.int (prO ok (twnV s f) nc a).1), some (.int (prO ok (twnV s f) nc a).2), some (.int (nI a)), none, none] [] (HA fm X s t)) ?_ ?_
      · refine ab_go ok_SF_twins 5 rfl ?_
        show ab_Z m_SF_twins _ _ _ 19 [_, _, _, _, _, _, _, _] [_, _] _
        rw [hC.1.1]
        refine ab_br ok_SF_twins rfl rfl ?_ ?_
        · intro h1
          show ab_Z m_SF_twins _ _ _ 63 [_, _, _, _, _, _, _, _] [] _
          refine ab_go ok_SF_twins 1 rfl ?_
          show ab_Z m_SF_twins _ _ _ 64 [_, _, _, _, _, _, _, _] [_] _
          refine ab_br ok_SF_twins rfl rfl ?_ ?_
          · intro h3
            show ab_Z m_SF_twins _ _ _ 65 [_, _, _, _, _, _, _, _] [] _
            refine ab_go ok_SF_twins 2 rfl ?_
            show ab_Z m_SF_twins _ _ _ 68 [_, _, _, _, _, _, _, _] [_] _
            exact ab_rI ok_SF_twins rfl (⟨by rw [selA, if_pos h3]; rfl, s, rfl, Kp2.rf s⟩)
          · intro h3
            show ab_Z m_SF_twins _ _ _ 67 [_, _, _, _, _, _, _, _] [] _
            refine ab_go ok_SF_twins 1 rfl ?_
            show ab_Z m_SF_twins _ _ _ 68 [_, _, _, _, _, _, _, _] [_] _
            exact ab_rI ok_SF_twins rfl (⟨by rw [selA, if_neg h3]; rfl, s, rfl, Kp2.rf s⟩)
        · intro h1
          show ab_Z m_SF_twins _ _ _ 20 [_, _, _, _, _, _, _, _] [] _
          exact absurd (lp_out nc) h1
      · intro a ha ih
        refine ab_go ok_SF_twins 5 rfl ?_
        show ab_Z m_SF_twins _ _ _ 19 [_, _, _, _, _, _, _, _] [_, _] _
        rw [hC.1.1]
        refine ab_br ok_SF_twins rfl rfl ?_ ?_
        · intro h1
          show ab_Z m_SF_twins _ _ _ 63 [_, _, _, _, _, _, _, _] [] _
          exact absurd h1 (lp_in (by omega) ha)
        · intro h1
          show ab_Z m_SF_twins _ _ _ 20 [_, _, _, _, _, _, _, _] [] _
          refine ab_go ok_SF_twins 4 rfl ?_
          show ab_Z m_SF_twins _ _ _ 24 [_, _, _, _, _, _, _, _] [] _
          rw [← nI_succ a]
          refine lp_dn (nc - (a + 1)) (fun j => ab_Z m_SF_twins (d + 3) (0, 0) (P2 (selA (prW ok (twnV s f) nc) w) fm X s t) 24 [some (.ref 0), some (.int (nI f)), some (.int w), some (.int (prI ok (twnV s f) a (prO ok (twnV s f) nc a) j).1), some (.int (prI ok (twnV s f) a (prO ok (twnV s f) nc a) j).2), some (.int (nI a)), some (.int (nI (a + 1 + j))), none] [] (HA fm X s t)) ?_ ?_
          · refine ab_go ok_SF_twins 5 rfl ?_
            show ab_Z m_SF_twins _ _ _ 29 [_, _, _, _, _, _, _, _] [_, _] _
            rw [hC.1.1, show a + 1 + (nc - (a + 1)) = nc by omega]
            refine ab_br ok_SF_twins rfl rfl ?_ ?_
            · intro h1
              show ab_Z m_SF_twins _ _ _ 61 [_, _, _, _, _, _, _, _] [] _
              refine ab_go ok_SF_twins 2 rfl ?_
              show ab_Z m_SF_twins _ _ _ 14 [_, _, _, _, _, _, _, _] [] _
              rw [prO, nI_succ] at ih
              exact ih
            · intro h1
              show ab_Z m_SF_twins _ _ _ 30 [_, _, _, _, _, _, _, _] [] _
              exact absurd (lp_out nc) h1
          · intro j hj ih3
            have ho : a + 1 + j < nc := by omega
            generalize hp : prI ok (twnV s f) a (prO ok (twnV s f) nc a) j = p
            rw [prI, hp, prS, show a + 1 + (j + 1) = a + 1 + j + 1 by omega, nI_succ (a + 1 + j)] at ih3
            refine ab_go ok_SF_twins 5 rfl ?_
            show ab_Z m_SF_twins _ _ _ 29 [_, _, _, _, _, _, _, _] [_, _] _
            rw [hC.1.1]
            refine ab_br ok_SF_twins rfl rfl ?_ ?_
            · intro h1
              show ab_Z m_SF_twins _ _ _ 61 [_, _, _, _, _, _, _, _] [] _
              exact absurd h1 (lp_in (by omega) ho)
            · intro h1
              show ab_Z m_SF_twins _ _ _ 30 [_, _, _, _, _, _, _, _] [] _
              refine ab_go ok_SF_twins 5 rfl ?_
              show ab_Z m_SF_twins _ _ _ 35 [_, _, _, _, _, _, _, _] [_, _, _] _
              refine ab_cl ok_SF_twins rfl [_, _, _] [] rfl ⟨_, _, rfl, rfl, Or.inl ⟨_, _, rfl, rfl⟩⟩ (Nat.le_of_ble_eq_true rfl) (t_Sc_levelOf (d + 1) fm X s t (show a < 5 by omega) hf) ?_
              rintro _ _ ⟨rfl, rfl⟩
              show ab_Z m_SF_twins _ _ _ 36 [_, _, _, _, _, _, _, _] [_] _
              refine ab_go ok_SF_twins 5 rfl ?_
              show ab_Z m_SF_twins _ _ _ 41 [_, _, _, _, _, _, _, _] [_, _, _, _] _
              refine ab_cl ok_SF_twins rfl [_, _, _] [_] rfl ⟨_, _, rfl, rfl, Or.inl ⟨_, _, rfl, rfl⟩⟩ (Nat.le_of_ble_eq_true rfl) (t_Sc_levelOf (d + 1) fm X s t (show a + 1 + j < 5 by omega) hf) ?_
              rintro _ _ ⟨rfl, rfl⟩
              show ab_Z m_SF_twins _ _ _ 42 [_, _, _, _, _, _, _, _] [_, _] _
              refine ab_go ok_SF_twins 1 rfl ?_
              show ab_Z m_SF_twins _ _ _ 43 [_, _, _, _, _, _, _, _] [_] _
              refine ab_cl ok_SF_twins rfl [_] [] rfl rfl (Nat.le_of_ble_eq_true rfl) (t_JM_abs (d + 2) _ _) ?_
              rintro _ _ ⟨rfl, rfl⟩
              show ab_Z m_SF_twins _ _ _ 44 [_, _, _, _, _, _, _, _] [_] _
              rw [show (if s 11 (3 * a + f) - s 11 (3 * (a + 1 + j) + f) < 0 then -(s 11 (3 * a + f) - s 11 (3 * (a + 1 + j) + f)) else s 11 (3 * a + f) - s 11 (3 * (a + 1 + j) + f)) = twnV s f a (a + 1 + j) from rfl]
              refine ab_go ok_SF_twins 3 rfl ?_
              show ab_Z m_SF_twins _ _ _ 47 [_, _, _, _, _, _, _, _] [_, _] _
              refine ab_br ok_SF_twins rfl rfl ?_ ?_
              · intro h4
                show ab_Z m_SF_twins _ _ _ 51 [_, _, _, _, _, _, _, _] [] _
                rw [if_pos ⟨hok2 _ _, Or.inl h4⟩, ← pr_ix] at ih3
                refine ab_go ok_SF_twins 10 rfl ?_
                show ab_Z m_SF_twins _ _ _ 24 [_, _, _, _, _, _, _, _] [] _
                exact ih3
              · intro h4
                show ab_Z m_SF_twins _ _ _ 48 [_, _, _, _, _, _, _, _] [] _
                refine ab_go ok_SF_twins 2 rfl ?_
                show ab_Z m_SF_twins _ _ _ 50 [_, _, _, _, _, _, _, _] [_, _] _
                refine ab_br ok_SF_twins rfl rfl ?_ ?_
                · intro h5
                  show ab_Z m_SF_twins _ _ _ 59 [_, _, _, _, _, _, _, _] [] _
                  rw [if_neg (fun q => q.2.elim h4 (fun z => by have := i_lt z; have := i_le h5; omega))] at ih3
                  refine ab_go ok_SF_twins 2 rfl ?_
                  show ab_Z m_SF_twins _ _ _ 24 [_, _, _, _, _, _, _, _] [] _
                  exact ih3
                · intro h5
                  show ab_Z m_SF_twins _ _ _ 51 [_, _, _, _, _, _, _, _] [] _
                  rw [if_pos ⟨hok2 _ _, Or.inr (Int32.lt_iff_toInt_lt.mpr (i_nle h5))⟩, ← pr_ix] at ih3
                  refine ab_go ok_SF_twins 10 rfl ?_
                  show ab_Z m_SF_twins _ _ _ 24 [_, _, _, _, _, _, _, _] [] _
                  exact ih3
theorem t_SF_heals (hC : CI s nc nd nt PT PG PB PF) (x : Int32) : ab_T g_SF_heals (d + 5) (0, 0) [.ref 0, .int x] (HA fm X s t) (P2 (if inR nc x then htV (fun f => fstV (fun k => decide (levA s PG nd x.toNatClampNeg f k = s 17 (3 * x.toNatClampNeg + f))) 0 101) 3 else -1) fm X s t) := by
  have h5 : nc ≤ 5 := hC.1.2.1
  have h6 : nd ≤ 6 := hC.1.2.2.2.1
  refine ab_T_of (M := m_SF_heals) rfl rfl (Nat.le_of_ble_eq_true rfl) ?_
  show ab_Z m_SF_heals _ _ _ 0 [_, _, _, _] [] _
  refine ab_go ok_SF_heals 3 rfl ?_
  show ab_Z m_SF_heals _ _ _ 3 [_, _, _, _] [_, _] _
  refine ab_cl ok_SF_heals rfl [_, _] [] rfl ⟨_, _, rfl, rfl, Or.inl ⟨_, _, rfl, rfl⟩⟩ (Nat.le_of_ble_eq_true rfl) (t_Ha_isClerk' (d + 4) fm X s t hC.1 x) ?_
  rintro _ _ ⟨rfl, rfl⟩
  show ab_Z m_SF_heals _ _ _ 4 [_, _, _, _] [_] _
  refine ab_br ok_SF_heals rfl rfl ?_ ?_
  · intro h1
    show ab_Z m_SF_heals _ _ _ 5 [_, _, _, _] [] _
    refine ab_go ok_SF_heals 1 rfl ?_
    show ab_Z m_SF_heals _ _ _ 6 [_, _, _, _] [_] _
    exact ab_rI ok_SF_heals rfl (⟨by rw [if_neg (bI_0.mp h1)], s, rfl, Kp2.rf s⟩)
  · intro h1
    show ab_Z m_SF_heals _ _ _ 7 [_, _, _, _] [] _
    have h2 := bI_n0 h1
    rw [if_pos h2]
    clear h1
    obtain ⟨c, hc, rfl⟩ := inR_nat h2
    rw [nI_c (by omega)]
    refine ab_go ok_SF_heals 4 rfl ?_
    show ab_Z m_SF_heals _ _ _ 11 [_, _, _, _] [] _
    generalize hg : (fun f => fstV (fun k => decide (levA s PG nd c f k = s 17 (3 * c + f))) 0 101) = g
    refine lp_dn 3 (fun f => ∀ s1, Kp2 s s1 → ab_Z m_SF_heals (d + 5) (0, 0) (P2 (htV g 3) fm X s t) 11 [some (.ref 0), some (.int (nI c)), some (.int (htV g f)), some (.int (nI f))] [] (HA fm X s1 t)) ?_ ?_ s (Kp2.rf s)
    · intro s1 hs
      refine ab_go ok_SF_heals 2 rfl ?_
      show ab_Z m_SF_heals _ _ _ 13 [_, _, _, _] [_, _] _
      refine ab_go ok_SF_heals 1 rfl ?_
      show ab_Z m_SF_heals _ _ _ 24 [_, _, _, _] [] _
      refine ab_go ok_SF_heals 1 rfl ?_
      show ab_Z m_SF_heals _ _ _ 25 [_, _, _, _] [_] _
      exact ab_rI ok_SF_heals rfl (⟨rfl, s1, rfl, hs⟩)
    · intro f hf ih s1 hs
      refine ab_go ok_SF_heals 2 rfl ?_
      show ab_Z m_SF_heals _ _ _ 13 [_, _, _, _] [_, _] _
      refine ab_br ok_SF_heals rfl rfl ?_ ?_
      · intro h1
        show ab_Z m_SF_heals _ _ _ 24 [_, _, _, _] [] _
        exact absurd h1 (lp_in (N := 3) (by decide) hf)
      · intro h1
        show ab_Z m_SF_heals _ _ _ 14 [_, _, _, _] [] _
        refine ab_go ok_SF_heals 5 rfl ?_
        show ab_Z m_SF_heals _ _ _ 19 [_, _, _, _] [_, _, _, _] _
        have hC1 := hC.1.kp hs
        refine ab_cl ok_SF_heals rfl [_, _, _] [_] rfl ⟨_, _, rfl, rfl, Or.inl ⟨_, _, rfl, rfl⟩⟩ (Nat.le_of_ble_eq_true rfl) (t_Ha_yearsToHeal d fm X s1 t hC1.2.2.2.2.2.2.2.1 hC1.2.2.1 h6 (show c < 5 by omega) hf) ?_
        rintro _ _ ⟨rfl, s2, rfl, hk2⟩
        show ab_Z m_SF_heals _ _ _ 20 [_, _, _, _] [_, _] _
        rw [show (fun k => decide (levA s1 PG nd c f k = s1 17 (3 * c + f))) = (fun k => decide (levA s PG nd c f k = s 17 (3 * c + f))) from funext fun k => by rw [levA_kp hs, hs 17 _ rfl (by decide)], show fstV (fun k => decide (levA s PG nd c f k = s 17 (3 * c + f))) 0 101 = g f from by rw [← hg]]
        refine ab_cl ok_SF_heals rfl [_, _] [] rfl rfl (Nat.le_of_ble_eq_true rfl) (t_SF_laterOf (d + 3) _ _ _) ?_
        rintro _ _ ⟨rfl, rfl⟩
        show ab_Z m_SF_heals _ _ _ 21 [_, _, _, _] [_] _
        refine ab_go ok_SF_heals 3 rfl ?_
        show ab_Z m_SF_heals _ _ _ 11 [_, _, _, _] [] _
        have ih2 := ih s2 (hs.tr hk2.to2)
        rw [htV, nI_succ] at ih2
        exact ih2
theorem t_SF_blank (hC : CI s nc nd nt PT PG PB PF) (x : Int32) : ab_T g_SF_blank (d + 5) (0, 0) [.ref 0, .int x] (HA fm X s t) (P2 (if inR nd x then htV (fun f => fstV (fun k => decide (fdA s PF x.toNatClampNeg f k = 0)) 0 101) 3 else -1) fm X s t) := by
  have h6 : nd ≤ 6 := hC.1.2.2.2.1
  refine ab_T_of (M := m_SF_blank) rfl rfl (Nat.le_of_ble_eq_true rfl) ?_
  show ab_Z m_SF_blank _ _ _ 0 [_, _, _, _] [] _
  refine ab_go ok_SF_blank 3 rfl ?_
  show ab_Z m_SF_blank _ _ _ 3 [_, _, _, _] [_, _] _
  refine ab_cl ok_SF_blank rfl [_, _] [] rfl ⟨_, _, rfl, rfl, Or.inl ⟨_, _, rfl, rfl⟩⟩ (Nat.le_of_ble_eq_true rfl) (t_Ha_isDeed' (d + 4) fm X s t hC.1 x) ?_
  rintro _ _ ⟨rfl, rfl⟩
  show ab_Z m_SF_blank _ _ _ 4 [_, _, _, _] [_] _
  refine ab_br ok_SF_blank rfl rfl ?_ ?_
  · intro h1
    show ab_Z m_SF_blank _ _ _ 5 [_, _, _, _] [] _
    refine ab_go ok_SF_blank 1 rfl ?_
    show ab_Z m_SF_blank _ _ _ 6 [_, _, _, _] [_] _
    exact ab_rI ok_SF_blank rfl (⟨by rw [if_neg (bI_0.mp h1)], s, rfl, Kp2.rf s⟩)
  · intro h1
    show ab_Z m_SF_blank _ _ _ 7 [_, _, _, _] [] _
    have h2 := bI_n0 h1
    rw [if_pos h2]
    clear h1
    obtain ⟨c, hc, rfl⟩ := inR_nat h2
    rw [nI_c (by omega)]
    refine ab_go ok_SF_blank 4 rfl ?_
    show ab_Z m_SF_blank _ _ _ 11 [_, _, _, _] [] _
    generalize hg : (fun f => fstV (fun k => decide (fdA s PF c f k = 0)) 0 101) = g
    refine lp_dn 3 (fun f => ∀ s1, Kp2 s s1 → ab_Z m_SF_blank (d + 5) (0, 0) (P2 (htV g 3) fm X s t) 11 [some (.ref 0), some (.int (nI c)), some (.int (htV g f)), some (.int (nI f))] [] (HA fm X s1 t)) ?_ ?_ s (Kp2.rf s)
    · intro s1 hs
      refine ab_go ok_SF_blank 2 rfl ?_
      show ab_Z m_SF_blank _ _ _ 13 [_, _, _, _] [_, _] _
      refine ab_go ok_SF_blank 1 rfl ?_
      show ab_Z m_SF_blank _ _ _ 24 [_, _, _, _] [] _
      refine ab_go ok_SF_blank 1 rfl ?_
      show ab_Z m_SF_blank _ _ _ 25 [_, _, _, _] [_] _
      exact ab_rI ok_SF_blank rfl (⟨rfl, s1, rfl, hs⟩)
    · intro f hf ih s1 hs
      refine ab_go ok_SF_blank 2 rfl ?_
      show ab_Z m_SF_blank _ _ _ 13 [_, _, _, _] [_, _] _
      refine ab_br ok_SF_blank rfl rfl ?_ ?_
      · intro h1
        show ab_Z m_SF_blank _ _ _ 24 [_, _, _, _] [] _
        exact absurd h1 (lp_in (N := 3) (by decide) hf)
      · intro h1
        show ab_Z m_SF_blank _ _ _ 14 [_, _, _, _] [] _
        refine ab_go ok_SF_blank 5 rfl ?_
        show ab_Z m_SF_blank _ _ _ 19 [_, _, _, _] [_, _, _, _] _
        have hC1 := hC.1.kp hs
        refine ab_cl ok_SF_blank rfl [_, _, _] [_] rfl ⟨_, _, rfl, rfl, Or.inl ⟨_, _, rfl, rfl⟩⟩ (Nat.le_of_ble_eq_true rfl) (t_Ha_yearsToFade d fm X s1 t hC1.2.2.2.2.2.2.2.2.2 (show c < 6 by omega) hf) ?_
        rintro _ _ ⟨rfl, s2, rfl, hk2⟩
        show ab_Z m_SF_blank _ _ _ 20 [_, _, _, _] [_, _] _
        rw [show (fun k => decide (fdA s1 PF c f k = 0)) = (fun k => decide (fdA s PF c f k = 0)) from funext fun k => by rw [fdA_kp hs], show fstV (fun k => decide (fdA s PF c f k = 0)) 0 101 = g f from by rw [← hg]]
        refine ab_cl ok_SF_blank rfl [_, _] [] rfl rfl (Nat.le_of_ble_eq_true rfl) (t_SF_laterOf (d + 3) _ _ _) ?_
        rintro _ _ ⟨rfl, rfl⟩
        show ab_Z m_SF_blank _ _ _ 21 [_, _, _, _] [_] _
        refine ab_go ok_SF_blank 3 rfl ?_
        show ab_Z m_SF_blank _ _ _ 11 [_, _, _, _] [] _
        have ih2 := ih s2 (hs.tr hk2.to2)
        rw [htV, nI_succ] at ih2
        exact ih2
end

