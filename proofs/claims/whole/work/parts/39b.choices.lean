/-! choices -/
def mxF (x y : Int32) : Int32 := if x < y then y else x
def mW (g : Nat → Int32) (a u : Nat) : Nat → Int32
  | 0 => g u
  | c + 1 => if (a.testBit c && !u.testBit c) = true then mxF (mW g a u c) (1 + g (u ||| 2 ^ c)) else mW g a u c
theorem mW_cg {g g' : Nat → Int32} {a u : Nat} (hu : u < 32) (h : ∀ v, v < 32 → g v = g' v) : ∀ {c : Nat}, c ≤ 5 → mW g a u c = mW g' a u c
  | 0, _ => h u hu
  | c + 1, hc => by rw [mW, mW, mW_cg hu h (by omega), h _ (or_lt32 hu (by omega))]
def mF (cf : Nat → Nat) (nd : Nat) : Nat → Nat → Int32
  | 0 => fun _ => 0
  | j + 1 => fun u => mW (mF cf nd j) (cf (nd - (j + 1))) u 5
def KpC (s s' : Nat → Nat → Int32) : Prop := ∀ c k, scr1 c k = false → c ≠ 13 → ¬ (53 ≤ c ∧ c ≤ 56) → s' c k = s c k
theorem KpC.rf (s : Nat → Nat → Int32) : KpC s s := fun _ _ _ _ _ => rfl
theorem KpC.tr {a b c : Nat → Nat → Int32} (h1 : KpC a b) (h2 : KpC b c) : KpC a c := fun x k h h3 h4 => (h2 x k h h3 h4).trans (h1 x k h h3 h4)
theorem Kp2.toC {a b : Nat → Nat → Int32} (h : Kp2 a b) : KpC a b := fun x k h1 h2 _ => h x k h1 h2
theorem KpC.up {a b : Nat → Nat → Int32} {p k : Nat} {v : Int32} (hp : 53 ≤ p ∧ p ≤ 56) (h : KpC a b) : KpC a (ab_up b p k v) := fun x j h1 h2 h3 => by
  rw [ab_up_o (show x ≠ p by omega)]
  exact h x j h1 h2 h3
/-- what a frame must keep for the hall's answers to stay -/
def KpH (s s' : Nat → Nat → Int32) : Prop := ∀ c k, scr1 c k = false → c ≠ 13 → (c ≤ 44) → s' c k = s c k
theorem KpC.toH {a b : Nat → Nat → Int32} (h : KpC a b) : KpH a b := fun x k h1 h2 h3 => h x k h1 h2 (by omega)
/-- a heap as the frame keeps it: below 45 the new one, above it the old one -/
def cutH (s s' : Nat → Nat → Int32) : Nat → Nat → Int32 := fun c => if c ≤ 44 then s' c else s c
theorem KpH.k2 {s s' : Nat → Nat → Int32} (h : KpH s s') : Kp2 s (cutH s s') := fun c k h1 h2 => by
  unfold cutH
  by_cases hc : c ≤ 44
  · rw [if_pos hc]; exact h c k h1 h2 hc
  · rw [if_neg hc]
theorem CLaw_h {s s' : Nat → Nat → Int32} {p : Nat} {P : List (List Ins)} (hp : p = 22 ∨ p = 26 ∨ p = 30 ∨ p = 34) (h : KpH s s') (hL : CLaw s p P) : CLaw s' p P := by
  obtain ⟨l1, l2, l3, l4, l5, l6, l7⟩ := hL
  refine ⟨?_, l2, l3, l4, fun i hi => ?_, fun i Q hQ j q hq => ?_, l7⟩
  · rw [h p 4 (by rcases hp with rfl | rfl | rfl | rfl <;> rfl) (by omega) (by omega)]; exact l1
  · rw [h (p + 2) i (by rcases hp with rfl | rfl | rfl | rfl <;> rfl) (by omega) (by omega)]; exact l5 i hi
  · rw [h (p + 1) _ (by rcases hp with rfl | rfl | rfl | rfl <;> rfl) (by omega) (by omega)]; exact l6 i Q hQ j q hq
theorem CS_h {s s' : Nat → Nat → Int32} {nc nd nt : Nat} {PT PG PB PF : List (List Ins)} (h : KpH s s') (hC : CS s nc nd nt PT PG PB PF) : CS s' nc nd nt PT PG PB PF := by
  obtain ⟨c1, c2, c3, c4, c5, c6, c7, c8, c9, c10⟩ := hC
  exact ⟨by rw [h 14 11 rfl (by decide) (by decide)]; exact c1, c2, by rw [h 14 12 rfl (by decide) (by decide)]; exact c3, c4, by rw [h 14 13 rfl (by decide) (by decide)]; exact c5, c6, CLaw_h (by simp) h c7, CLaw_h (by simp) h c8, CLaw_h (by simp) h c9, CLaw_h (by simp) h c10⟩
theorem SI_h {s s' : Nat → Nat → Int32} {nc nd nt : Nat} (h : KpH s s') (hI : SI s nc nd nt) : SI s' nc nd nt := by
  refine ⟨fun e he => ?_, fun k hk i hi => ?_⟩
  · rw [h 11 _ rfl (by decide) (by decide)]; exact hI.1 e he
  · rw [h 21 _ rfl (by decide) (by decide)]; exact hI.2 k hk i hi
theorem CI_h {s s' : Nat → Nat → Int32} {nc nd nt : Nat} {PT PG PB PF : List (List Ins)} (h : KpH s s') (hC : CI s nc nd nt PT PG PB PF) : CI s' nc nd nt PT PG PB PF := ⟨CS_h h hC.1, SI_h h hC.2⟩
theorem nsV_h {s s' : Nat → Nat → Int32} (h : KpH s s') (nd c : Nat) : nsV s' nd c = nsV s nd c := by
  unfold nsV
  rw [show (fun k => decide (s' 11 (33 + k) = nI c)) = (fun k => decide (s 11 (33 + k) = nI c)) from funext fun k => by rw [h 11 _ rfl (by decide) (by decide)]]
theorem tkV_h {s s' : Nat → Nat → Int32} (h : KpH s s') (P : List (List Ins)) (c e f : Nat) (l n : Int32) : tkV s' P c e f l n = tkV s P c e f l n := by
  unfold tkV
  rw [h 20 _ rfl (by decide) (by decide), h 16 _ rfl (by decide) (by decide), h 19 _ rfl (by decide) (by decide), h 11 39 rfl (by decide) (by decide)]
theorem TV_h {s s' : Nat → Nat → Int32} (h : KpH s s') (P : List (List Ins)) (nd c e f : Nat) : TV s' P nd c e f = TV s P nd c e f := by
  unfold TV
  rw [tkV_h h, nsV_h h, h 11 _ rfl (by decide) (by decide)]
theorem leftV_h {s s' : Nat → Nat → Int32} (h : KpH s s') (P : List (List Ins)) (nd c e : Nat) : ∀ k, leftV s' P nd c e k = leftV s P nd c e k
  | 0 => rfl
  | k + 1 => by rw [leftV, leftV, leftV_h h P nd c e k, TV_h h, h 11 _ rfl (by decide) (by decide)]
theorem enB_h {s s' : Nat → Nat → Int32} (h : KpH s s') (P : List (List Ins)) (nd c e : Nat) : ∀ k, enB s' P nd c e k = enB s P nd c e k
  | 0 => by rw [enB, enB, h 11 _ rfl (by decide) (by decide)]
  | k + 1 => by rw [enB, enB, enB_h h P nd c e k, TV_h h, h 11 _ rfl (by decide) (by decide)]
theorem canB_h {s s' : Nat → Nat → Int32} (h : KpH s s') (P : List (List Ins)) (nd c e : Nat) : canB s' P nd c e = canB s P nd c e := by
  unfold canB
  rw [enB_h h, leftV_h h]
theorem fdV_h {s s' : Nat → Nat → Int32} (h : KpH s s') (PF : List (List Ins)) (e f : Nat) (p y : Int32) : fdV s' PF e f p y = fdV s PF e f p y := by
  unfold fdV
  rw [h 20 _ rfl (by decide) (by decide), h 19 _ rfl (by decide) (by decide)]
theorem prtA_h {s s' : Nat → Nat → Int32} (h : KpH s s') (PF : List (List Ins)) (e f : Nat) : ∀ k, prtA s' PF e f k = prtA s PF e f k
  | 0 => h 11 _ rfl (by decide) (by decide)
  | k + 1 => by rw [prtA, prtA, prtA_h h PF e f k, fdV_h h, h 11 39 rfl (by decide) (by decide)]
theorem prsA_h {s s' : Nat → Nat → Int32} (h : KpH s s') (PF : List (List Ins)) (e n : Nat) : ∀ k, prsA s' PF e n k = prsA s PF e n k
  | 0 => rfl
  | k + 1 => by rw [prsA, prsA, prsA_h h PF e n k, prtA_h h]
theorem bdV_h {s s' : Nat → Nat → Int32} (h : KpH s s') (PB PF : List (List Ins)) (nd e n : Nat) : bdV s' PB PF nd e n = bdV s PB PF nd e n := by
  unfold bdV
  rw [prsA_h h, h 11 (33 + e) rfl (by decide) (by decide), nsV_h h, h 16 _ rfl (by decide) (by decide), h 11 39 rfl (by decide) (by decide), h 19 _ rfl (by decide) (by decide)]
def cfS (s : Nat → Nat → Int32) (PT : List (List Ins)) (nc nd e : Nat) : Nat := bitsN (fun c => canB s PT nd c e) nc
theorem cfS_lt (s : Nat → Nat → Int32) (PT : List (List Ins)) {nc : Nat} (h : nc ≤ 5) (nd e : Nat) : cfS s PT nc nd e < 32 := Nat.lt_of_lt_of_le (bitsN_lt _ nc) (Nat.pow_le_pow_right (by decide) h : 2 ^ nc ≤ 2 ^ 5)
theorem ix32 (e u : Nat) : nI e * 32 + nI u = nI (32 * e + u) := by rw [L32, pk_mul, nI_add, Nat.mul_comm]
section
variable (d : Nat) (fm : Value) (X : Nat × (Nat → Int32)) (s : Nat → Nat → Int32) (t : Nat → Nat → Int64)
variable {nc nd nt : Nat} {PT PG PB PF : List (List Ins)}
theorem t_Ch_mostFrom {e u : Nat} (x y : Int32) (hx : x = nI e) (hy : y = nI u) (he : e < 7) (hu : u < 32) : ab_T g_Ch_mostFrom (d + 1) (0, 0) [.ref 52, .int x, .int y] (HA fm X s t) (PI (s 54 (32 * e + u)) (HA fm X s t)) := by
  subst hx hy
  refine ab_T_of (M := m_Ch_mostFrom) rfl rfl (Nat.le_of_ble_eq_true rfl) ?_
  show ab_Z m_Ch_mostFrom _ _ _ 0 [_, _, _] [] _
  refine ab_go ok_Ch_mostFrom 7 rfl ?_
  show ab_Z m_Ch_mostFrom _ _ _ 7 [_, _, _] [_, _] _
  refine ab_cl ok_Ch_mostFrom rfl [_, _] [] rfl rfl (Nat.le_of_ble_eq_true rfl) (t_SF_at_54 d fm X s t _ (32 * e + u) (by omega) (ix32 e u)) ?_
  rintro _ _ ⟨rfl, rfl⟩
  show ab_Z m_Ch_mostFrom _ _ _ 8 [_, _, _] [_] _
  exact ab_rI ok_Ch_mostFrom rfl (⟨rfl, rfl⟩)
theorem t_Ch_mostWith {e u a : Nat} (g : Nat → Int32) (hg : ∀ v, v < 32 → s 54 (32 * (e + 1) + v) = g v) (ha : s 53 e = nI a) (he : e < 6) (hu : u < 32) : ab_T g_Ch_mostWith (d + 2) (0, 0) [.ref 52, .int (nI e), .int (nI u)] (HA fm X s t) (PI (mW g a u 5) (HA fm X s t)) := by
  refine ab_T_of (M := m_Ch_mostWith) rfl rfl (Nat.le_of_ble_eq_true rfl) ?_
  show ab_Z m_Ch_mostWith _ _ _ 0 [_, _, _, _, _, _] [] _
  refine ab_go ok_Ch_mostWith 5 rfl ?_
  show ab_Z m_Ch_mostWith _ _ _ 5 [_, _, _, _, _, _] [_, _, _] _
  refine ab_cl ok_Ch_mostWith rfl [_, _, _] [] rfl ⟨_, _, rfl, rfl, Or.inl ⟨_, _, rfl, rfl⟩⟩ (Nat.le_of_ble_eq_true rfl) (t_Ch_mostFrom d fm X s t _ _ (nI_succ e).symm rfl (show e + 1 < 7 by omega) hu) ?_
  rintro _ _ ⟨rfl, rfl⟩
  show ab_Z m_Ch_mostWith _ _ _ 6 [_, _, _, _, _, _] [_] _
  rw [hg u hu]
  refine ab_go ok_Ch_mostWith 4 rfl ?_
  show ab_Z m_Ch_mostWith _ _ _ 10 [_, _, _, _, _, _] [_, _] _
  refine ab_cl ok_Ch_mostWith rfl [_, _] [] rfl rfl (Nat.le_of_ble_eq_true rfl) (t_SF_at_53 (d + 1) fm X s t _ e he rfl) ?_
  rintro _ _ ⟨rfl, rfl⟩
  show ab_Z m_Ch_mostWith _ _ _ 11 [_, _, _, _, _, _] [_] _
  rw [ha]
  refine ab_go ok_Ch_mostWith 7 rfl ?_
  show ab_Z m_Ch_mostWith _ _ _ 18 [_, _, _, _, _, _] [] _
  generalize hV : mW g a u 5 = V
  refine lp_dn 5 (fun c => ab_Z m_Ch_mostWith (d + 2) (0, 0) (PI V (HA fm X s t)) 18 [some (.ref 52), some (.int (nI e)), some (.int (nI u)), some (.int (mW g a u c)), some (.int (nI a &&& (nI u ^^^ -1))), some (.int (nI c))] [] (HA fm X s t)) ?_ ?_
  · refine ab_go ok_Ch_mostWith 2 rfl ?_
    show ab_Z m_Ch_mostWith _ _ _ 20 [_, _, _, _, _, _] [_, _] _
    refine ab_go ok_Ch_mostWith 1 rfl ?_
    show ab_Z m_Ch_mostWith _ _ _ 42 [_, _, _, _, _, _] [] _
    refine ab_go ok_Ch_mostWith 1 rfl ?_
    show ab_Z m_Ch_mostWith _ _ _ 43 [_, _, _, _, _, _] [_] _
    exact ab_rI ok_Ch_mostWith rfl (⟨by rw [hV], rfl⟩)
  · intro c hc ih
    rw [mW, nI_succ] at ih
    refine ab_go ok_Ch_mostWith 2 rfl ?_
    show ab_Z m_Ch_mostWith _ _ _ 20 [_, _, _, _, _, _] [_, _] _
    refine ab_br ok_Ch_mostWith rfl rfl ?_ ?_
    · intro h1
      show ab_Z m_Ch_mostWith _ _ _ 42 [_, _, _, _, _, _] [] _
      exact absurd h1 (lp_in (N := 5) (by decide) hc)
    · intro h1
      show ab_Z m_Ch_mostWith _ _ _ 21 [_, _, _, _, _, _] [] _
      refine ab_go ok_Ch_mostWith 2 rfl ?_
      show ab_Z m_Ch_mostWith _ _ _ 23 [_, _, _, _, _, _] [_, _] _
      refine ab_cl ok_Ch_mostWith rfl [_, _] [] rfl rfl (Nat.le_of_ble_eq_true rfl) (t_SF_hasBit (d + 1) _ _ (nI c)) ?_
      rintro _ _ ⟨rfl, rfl⟩
      show ab_Z m_Ch_mostWith _ _ _ 24 [_, _, _, _, _, _] [_] _
      rw [hbF_an a u (by omega)]
      refine ab_br ok_Ch_mostWith rfl rfl ?_ ?_
      · intro h2
        show ab_Z m_Ch_mostWith _ _ _ 40 [_, _, _, _, _, _] [] _
        rw [if_neg (by rw [bB_0.mp h2]; decide)] at ih
        refine ab_go ok_Ch_mostWith 2 rfl ?_
        show ab_Z m_Ch_mostWith _ _ _ 18 [_, _, _, _, _, _] [] _
        exact ih
      · intro h2
        show ab_Z m_Ch_mostWith _ _ _ 25 [_, _, _, _, _, _] [] _
        rw [if_pos (bB_n0 h2)] at ih
        refine ab_go ok_Ch_mostWith 11 rfl ?_
        show ab_Z m_Ch_mostWith _ _ _ 36 [_, _, _, _, _, _] [_, _, _, _, _] _
        refine ab_cl ok_Ch_mostWith rfl [_, _, _] [_, _] rfl ⟨_, _, rfl, rfl, Or.inl ⟨_, _, rfl, rfl⟩⟩ (Nat.le_of_ble_eq_true rfl) (t_Ch_mostFrom d fm X s t _ _ (nI_succ e).symm (by rw [nI_shl c (by omega), nI_or]) (show e + 1 < 7 by omega) (or_lt32 hu hc)) ?_
        rintro _ _ ⟨rfl, rfl⟩
        show ab_Z m_Ch_mostWith _ _ _ 37 [_, _, _, _, _, _] [_, _, _] _
        rw [hg _ (or_lt32 hu hc)]
        refine ab_go ok_Ch_mostWith 1 rfl ?_
        show ab_Z m_Ch_mostWith _ _ _ 38 [_, _, _, _, _, _] [_, _] _
        refine ab_cl ok_Ch_mostWith rfl [_, _] [] rfl rfl (Nat.le_of_ble_eq_true rfl) (t_JM_max (d + 1) _ _ _) ?_
        rintro _ _ ⟨rfl, rfl⟩
        show ab_Z m_Ch_mostWith _ _ _ 39 [_, _, _, _, _, _] [_] _
        refine ab_go ok_Ch_mostWith 3 rfl ?_
        show ab_Z m_Ch_mostWith _ _ _ 18 [_, _, _, _, _, _] [] _
        exact ih
theorem t_Ch_fillMatches (hC : CI s nc nd nt PT PG PB PF) : ab_T g_Ch_fillMatches (d + 6) (0, 0) [.ref 52] (HA fm X s t) (fun v h => v = none ∧ ∃ s', h = HA fm X s' t ∧ KpC s s' ∧ (∀ e, e < nd → s' 53 e = nI (cfS s PT nc nd e)) ∧ ∀ e u, e ≤ nd → u < 32 → s' 54 (32 * e + u) = mF (cfS s PT nc nd) nd (nd - e) u) := by
  have h5 : nc ≤ 5 := hC.1.2.1
  have h6 : nd ≤ 6 := hC.1.2.2.2.1
  refine ab_T_of (M := m_Ch_fillMatches) rfl rfl (Nat.le_of_ble_eq_true rfl) ?_
  show ab_Z m_Ch_fillMatches _ _ _ 0 [_, _, _, _] [] _
  refine ab_go ok_Ch_fillMatches 7 rfl ?_
  show ab_Z m_Ch_fillMatches _ _ _ 7 [_, _, _, _] [] _
  rw [hC.1.2.2.1]
  generalize hPo : (fun v h => v = none ∧ ∃ s', h = HA fm X s' t ∧ KpC s s' ∧ (∀ e, e < nd → s' 53 e = nI (cfS s PT nc nd e)) ∧ ∀ e u, e ≤ nd → u < 32 → s' 54 (32 * e + u) = mF (cfS s PT nc nd) nd (nd - e) u : Option Value → ab_H → Prop) = Po
  refine lp_dn 32 (fun u => ∀ s1, KpC s s1 → (∀ v, v < u → s1 54 (32 * nd + v) = 0) → ab_Z m_Ch_fillMatches (d + 6) (0, 0) Po 7 [some (.ref 52), some (.int (nI nd)), some (.int (nI u)), none] [] (HA fm X s1 t)) ?_ ?_ s (KpC.rf s) (fun v hv => absurd hv (by omega))
  · intro s1 hs hz
    refine ab_go ok_Ch_fillMatches 2 rfl ?_
    show ab_Z m_Ch_fillMatches _ _ _ 9 [_, _, _, _] [_, _] _
    refine ab_go ok_Ch_fillMatches 1 rfl ?_
    show ab_Z m_Ch_fillMatches _ _ _ 21 [_, _, _, _] [] _
    refine ab_go ok_Ch_fillMatches 4 rfl ?_
    show ab_Z m_Ch_fillMatches _ _ _ 25 [_, _, _, _] [] _
    refine lp_dn nd (fun j => ∀ s1, KpC s s1 → (∀ e, nd - j ≤ e → e < nd → s1 53 e = nI (cfS s PT nc nd e)) → (∀ e u, nd - j ≤ e → e ≤ nd → u < 32 → s1 54 (32 * e + u) = mF (cfS s PT nc nd) nd (nd - e) u) → ab_Z m_Ch_fillMatches (d + 6) (0, 0) Po 25 [some (.ref 52), none, some (.int (nI (nd - j) - 1)), none] [] (HA fm X s1 t)) ?_ ?_ s1 hs (fun e a b => by omega) (fun e u a b c => by rw [show e = nd by omega, Nat.sub_self, mF]; exact hz u c)
    · intro s1 hs q1 q2
      rw [Nat.sub_self]
      refine ab_go ok_Ch_fillMatches 1 rfl ?_
      show ab_Z m_Ch_fillMatches _ _ _ 26 [_, _, _, _] [_] _
      refine ab_go ok_Ch_fillMatches 1 rfl ?_
      show ab_Z m_Ch_fillMatches _ _ _ 56 [_, _, _, _] [] _
      exact ab_rV ok_Ch_fillMatches rfl (by rw [← hPo]; exact ⟨rfl, s1, rfl, hs, fun e he => q1 e (by omega) he, fun e u he hu => q2 e u (by omega) he hu⟩)
    · intro j hj ih s1 hs q1 q2
      obtain ⟨e, rfl⟩ : ∃ e, nd = e + j + 1 := ⟨nd - j - 1, by omega⟩
      rw [show e + j + 1 - j = e + 1 by omega, nI_succ, Int32.add_sub_cancel]
      rw [show e + j + 1 - j = e + 1 by omega] at q1 q2
      rw [show e + j + 1 - (j + 1) = e by omega] at ih
      refine ab_go ok_Ch_fillMatches 1 rfl ?_
      show ab_Z m_Ch_fillMatches _ _ _ 26 [_, _, _, _] [_] _
      refine ab_br ok_Ch_fillMatches rfl rfl ?_ ?_
      · intro h1
        show ab_Z m_Ch_fillMatches _ _ _ 56 [_, _, _, _] [] _
        exact absurd h1 (nI_l0 (by omega))
      · intro h1
        show ab_Z m_Ch_fillMatches _ _ _ 27 [_, _, _, _] [] _
        have hC1 := CI_h hs.toH hC
        refine ab_go ok_Ch_fillMatches 6 rfl ?_
        show ab_Z m_Ch_fillMatches _ _ _ 33 [_, _, _, _] [_, _, _, _] _
        refine ab_cl ok_Ch_fillMatches rfl [_, _] [_, _] rfl ⟨_, _, rfl, rfl, Or.inl ⟨_, _, rfl, rfl⟩⟩ (Nat.le_of_ble_eq_true rfl) (t_Ha_clerksFor d fm X s1 t hC1.1.2.2.2.2.2.2.1 hC1.1.1 h5 hC1.1.2.2.1 h6 (show e < e + j + 1 by omega)) ?_
        rintro _ _ ⟨rfl, s2, rfl, hk⟩
        show ab_Z m_Ch_fillMatches _ _ _ 34 [_, _, _, _] [_, _, _] _
        rw [show bitsN (fun c => canB s1 PT (e + j + 1) c e) nc = cfS s PT nc (e + j + 1) e from by unfold cfS; rw [show (fun c => canB s1 PT (e + j + 1) c e) = (fun c => canB s PT (e + j + 1) c e) from funext fun c => canB_h hs.toH PT _ c e]]
        refine ab_cl ok_Ch_fillMatches rfl [_, _, _] [] rfl rfl (Nat.le_of_ble_eq_true rfl) (t_SF_put_53 (d + 5) fm X s2 t _ e _ (show e < 6 by omega) rfl) ?_
        rintro _ _ ⟨rfl, rfl⟩
        show ab_Z m_Ch_fillMatches _ _ _ 35 [_, _, _, _] [] _
        refine ab_go ok_Ch_fillMatches 2 rfl ?_
        show ab_Z m_Ch_fillMatches _ _ _ 37 [_, _, _, _] [] _
        have hs2 : KpC s (ab_up s2 53 e (nI (cfS s PT nc (e + j + 1) e))) := (hs.tr hk.toC).up (by decide)
        have k53 : ∀ x, s2 53 x = s1 53 x := fun x => hk 53 x rfl (by decide)
        have k54 : ∀ x, s2 54 x = s1 54 x := fun x => hk 54 x rfl (by decide)
        refine lp_dn 32 (fun u => ∀ s1, KpC s s1 → (∀ x, e ≤ x → x < e + j + 1 → s1 53 x = nI (cfS s PT nc (e + j + 1) x)) → (∀ x v, e + 1 ≤ x → x ≤ e + j + 1 → v < 32 → s1 54 (32 * x + v) = mF (cfS s PT nc (e + j + 1)) (e + j + 1) (e + j + 1 - x) v) → (∀ v, v < u → s1 54 (32 * e + v) = mF (cfS s PT nc (e + j + 1)) (e + j + 1) (j + 1) v) → ab_Z m_Ch_fillMatches (d + 6) (0, 0) Po 37 [some (.ref 52), none, some (.int (nI e)), some (.int (nI u))] [] (HA fm X s1 t)) ?_ ?_ _ hs2 (fun x a b => ?_) (fun x v a b c => ?_) (fun v hv => absurd hv (by omega))
        · intro s1 hs q1 q2 q3
          refine ab_go ok_Ch_fillMatches 2 rfl ?_
          show ab_Z m_Ch_fillMatches _ _ _ 39 [_, _, _, _] [_, _] _
          refine ab_go ok_Ch_fillMatches 1 rfl ?_
          show ab_Z m_Ch_fillMatches _ _ _ 54 [_, _, _, _] [] _
          refine ab_go ok_Ch_fillMatches 2 rfl ?_
          show ab_Z m_Ch_fillMatches _ _ _ 25 [_, _, _, _] [] _
          have ih4 := ih s1 hs (fun x a b => q1 x (by omega) b) (fun x v a b c => by
            by_cases hx : x = e
            · subst hx; rw [show x + j + 1 - x = j + 1 by omega]; exact q3 v c
            · exact q2 x v (by omega) b c)
          rw [Int32.sub_eq_add_neg] at ih4
          exact ih4
        · intro u hu ih3 s1 hs q1 q2 q3
          refine ab_go ok_Ch_fillMatches 2 rfl ?_
          show ab_Z m_Ch_fillMatches _ _ _ 39 [_, _, _, _] [_, _] _
          refine ab_br ok_Ch_fillMatches rfl rfl ?_ ?_
          · intro h1
            show ab_Z m_Ch_fillMatches _ _ _ 54 [_, _, _, _] [] _
            exact absurd h1 (lp_in (N := 32) (by decide) hu)
          · intro h1
            show ab_Z m_Ch_fillMatches _ _ _ 40 [_, _, _, _] [] _
            refine ab_go ok_Ch_fillMatches 10 rfl ?_
            show ab_Z m_Ch_fillMatches _ _ _ 50 [_, _, _, _] [_, _, _, _, _] _
            refine ab_cl ok_Ch_fillMatches rfl [_, _, _] [_, _] rfl ⟨_, _, rfl, rfl, Or.inl ⟨_, _, rfl, rfl⟩⟩ (Nat.le_of_ble_eq_true rfl) (t_Ch_mostWith (d + 3) fm X s1 t (mF (cfS s PT nc (e + j + 1)) (e + j + 1) j) (fun v hv => by rw [q2 (e + 1) v (by omega) (by omega) hv, show e + j + 1 - (e + 1) = j by omega]) (q1 e (by omega) (by omega)) (show e < 6 by omega) hu) ?_
            rintro _ _ ⟨rfl, rfl⟩
            show ab_Z m_Ch_fillMatches _ _ _ 51 [_, _, _, _] [_, _, _] _
            refine ab_cl ok_Ch_fillMatches rfl [_, _, _] [] rfl rfl (Nat.le_of_ble_eq_true rfl) (t_SF_put_54 (d + 5) fm X s1 t _ (32 * e + u) _ (by omega) (ix32 e u)) ?_
            rintro _ _ ⟨rfl, rfl⟩
            show ab_Z m_Ch_fillMatches _ _ _ 52 [_, _, _, _] [] _
            refine ab_go ok_Ch_fillMatches 2 rfl ?_
            show ab_Z m_Ch_fillMatches _ _ _ 37 [_, _, _, _] [] _
            have e3 : mW (mF (cfS s PT nc (e + j + 1)) (e + j + 1) j) (cfS s PT nc (e + j + 1) e) u 5 = mF (cfS s PT nc (e + j + 1)) (e + j + 1) (j + 1) u := by
              rw [mF, show e + j + 1 - (j + 1) = e by omega]
            rw [e3]
            have ih4 := ih3 _ (hs.up (p := 54) (k := 32 * e + u) (v := mF (cfS s PT nc (e + j + 1)) (e + j + 1) (j + 1) u) (by decide)) (fun x a b => by rw [ab_up_o (by decide)]; exact q1 x a b) (fun x v a b c => by rw [ab_up_n (by omega)]; exact q2 x v a b c) (fun v hv => by
              by_cases hvu : v = u
              · subst hvu; rw [ab_up_s]
              · rw [ab_up_n (by omega)]; exact q3 v (by omega))
            rw [nI_succ] at ih4
            exact ih4
        · by_cases hx : x = e
          · subst hx; rw [ab_up_s]
          · rw [ab_up_n hx, k53]; exact q1 x (by omega) b
        · rw [ab_up_o (by decide), k54]; exact q2 x v (by omega) b c
  · intro u hu ih s1 hs hz
    refine ab_go ok_Ch_fillMatches 2 rfl ?_
    show ab_Z m_Ch_fillMatches _ _ _ 9 [_, _, _, _] [_, _] _
    refine ab_br ok_Ch_fillMatches rfl rfl ?_ ?_
    · intro h1
      show ab_Z m_Ch_fillMatches _ _ _ 21 [_, _, _, _] [] _
      exact absurd h1 (lp_in (N := 32) (by decide) hu)
    · intro h1
      show ab_Z m_Ch_fillMatches _ _ _ 10 [_, _, _, _] [] _
      refine ab_go ok_Ch_fillMatches 8 rfl ?_
      show ab_Z m_Ch_fillMatches _ _ _ 18 [_, _, _, _] [_, _, _] _
      refine ab_cl ok_Ch_fillMatches rfl [_, _, _] [] rfl rfl (Nat.le_of_ble_eq_true rfl) (t_SF_put_54 (d + 5) fm X s1 t _ (32 * nd + u) _ (by omega) (ix32 nd u)) ?_
      rintro _ _ ⟨rfl, rfl⟩
      show ab_Z m_Ch_fillMatches _ _ _ 19 [_, _, _, _] [] _
      refine ab_go ok_Ch_fillMatches 2 rfl ?_
      show ab_Z m_Ch_fillMatches _ _ _ 7 [_, _, _, _] [] _
      have ih2 := ih _ (hs.up (p := 54) (k := 32 * nd + u) (v := 0) (by decide)) (fun v hv => by
        by_cases hvu : v = u
        · subst hvu; rw [ab_up_s]
        · rw [ab_up_n (by omega)]; exact hz v (by omega))
      rw [nI_succ] at ih2
      exact ih2
end

