/-! the hall: what the laws make of text and scene; scratch: the row of variables, the laws' stacks and broken, wanted (13) -/
def scr1 (c k : Nat) : Bool := c == 12 || c == 25 || c == 29 || c == 33 || c == 37 || ((c == 22 || c == 26 || c == 30 || c == 34) && k == 5)
def Kp1 (s s' : Nat → Nat → Int32) : Prop := ∀ c k, scr1 c k = false → s' c k = s c k
def Kp2 (s s' : Nat → Nat → Int32) : Prop := ∀ c k, scr1 c k = false → c ≠ 13 → s' c k = s c k
theorem Kp1.rf (s : Nat → Nat → Int32) : Kp1 s s := fun _ _ _ => rfl
theorem Kp2.rf (s : Nat → Nat → Int32) : Kp2 s s := fun _ _ _ _ => rfl
theorem Kp1.tr {a b c : Nat → Nat → Int32} (h1 : Kp1 a b) (h2 : Kp1 b c) : Kp1 a c := fun x k h => (h2 x k h).trans (h1 x k h)
theorem Kp2.tr {a b c : Nat → Nat → Int32} (h1 : Kp2 a b) (h2 : Kp2 b c) : Kp2 a c := fun x k h h3 => (h2 x k h h3).trans (h1 x k h h3)
theorem Kp1.to2 {a b : Nat → Nat → Int32} (h : Kp1 a b) : Kp2 a b := fun x k h1 _ => h x k h1
theorem Kp1.u {a b : Nat → Nat → Int32} {k : Nat} {v : Int32} (h : Kp1 a b) : Kp1 a (ab_up b 12 k v) := by
  intro c j hc
  rw [ab_up_o (by intro z; subst z; cases hc)]
  exact h c j hc
theorem Kp1.r {a b : Nat → Nat → Int32} {f : Nat → Int32} (h : Kp1 a b) : Kp1 a (ab_ro b 12 f) := by
  intro c j hc
  rw [ab_ro_o (by intro z; subst z; cases hc)]
  exact h c j hc
theorem Kp1.l {a b : Nat → Nat → Int32} {p : Nat} {z : Stk} (hp : p = 22 ∨ p = 26 ∨ p = 30 ∨ p = 34) (h : Kp1 a b) : Kp1 a (lpH b p z) := by
  intro c j hc
  rw [← h c j hc]
  by_cases h1 : c = p
  · subst h1
    apply lpH_f
    intro z
    subst z
    rcases hp with rfl | rfl | rfl | rfl <;> cases hc
  · by_cases h2 : c = p + 3
    · subst h2
      rcases hp with rfl | rfl | rfl | rfl <;> cases hc
    · rw [lpH_o _ _ _ h1 h2]
theorem Kp2.w {a b : Nat → Nat → Int32} {k : Nat} {v : Int32} (h : Kp2 a b) : Kp2 a (ab_up b 13 k v) := by
  intro c j hc h13
  rw [ab_up_o h13]
  exact h c j hc h13
theorem CLaw_kp {s s' : Nat → Nat → Int32} {p : Nat} {P : List (List Ins)} (hp : p = 22 ∨ p = 26 ∨ p = 30 ∨ p = 34) (h : Kp2 s s') (hL : CLaw s p P) : CLaw s' p P := by
  obtain ⟨l1, l2, l3, l4, l5, l6, l7⟩ := hL
  refine ⟨?_, l2, l3, l4, fun i hi => ?_, fun i Q hQ j q hq => ?_, l7⟩
  · rw [h p 4 (by rcases hp with rfl | rfl | rfl | rfl <;> rfl) (by omega)]; exact l1
  · rw [h (p + 2) i (by rcases hp with rfl | rfl | rfl | rfl <;> rfl) (by omega)]; exact l5 i hi
  · rw [h (p + 1) _ (by rcases hp with rfl | rfl | rfl | rfl <;> rfl) (by omega)]; exact l6 i Q hQ j q hq
/-- counts and laws of the class's text -/
def CS (s : Nat → Nat → Int32) (nc nd nt : Nat) (PT PG PB PF : List (List Ins)) : Prop := s 14 11 = nI nc ∧ nc ≤ 5 ∧ s 14 12 = nI nd ∧ nd ≤ 6 ∧ s 14 13 = nI nt ∧ nt ≤ 6 ∧ CLaw s 22 PT ∧ CLaw s 26 PG ∧ CLaw s 30 PB ∧ CLaw s 34 PF
theorem CS.kp {s s' : Nat → Nat → Int32} {nc nd nt : Nat} {PT PG PB PF : List (List Ins)} (h : Kp2 s s') (hC : CS s nc nd nt PT PG PB PF) : CS s' nc nd nt PT PG PB PF := by
  obtain ⟨c1, c2, c3, c4, c5, c6, c7, c8, c9, c10⟩ := hC
  exact ⟨(h 14 11 rfl (by decide)).trans c1, c2, (h 14 12 rfl (by decide)).trans c3, c4, (h 14 13 rfl (by decide)).trans c5, c6, CLaw_kp (by simp) h c7, CLaw_kp (by simp) h c8, CLaw_kp (by simp) h c9, CLaw_kp (by simp) h c10⟩
theorem runI_cg {v w : Nat → Int32} (h : ∀ j, j < 9 → v j = w j) : ∀ (Q : List Ins) (z : Stk), okQ Q z.2.1 → runI v z Q = runI w z Q
  | [], _, _ => rfl
  | (k, n) :: Q, z, ok => by
    have e : stpI v z (k, n) = stpI w z (k, n) := by
      match k, ok with
      | 0, _ => rfl
      | 1, ok =>
        show (upd z.1 z.2.1 (v n), _, _) = (upd z.1 z.2.1 (w n), _, _)
        rw [h n ok.1.2]
      | k + 2, _ => rfl
    show runI v (stpI v z (k, n)) Q = runI w (stpI w z (k, n)) Q
    rw [e]
    exact runI_cg h Q _ (by rw [stpI_h]; exact ok.2)
theorem evQ_cg {v w : Nat → Int32} (h : ∀ j, j < 9 → v j = w j) {Q : List Ins} (ok : okQ Q 0) : evQ v Q = evQ w Q := by
  unfold evQ
  rw [runI_cg h Q _ ok]
theorem lawSem_cg {v w : Nat → Int32} (h : ∀ j, j < 9 → v j = w j) : ∀ (P : List (List Ins)), (∀ Q ∈ P, okQ Q 0) → lawSem v P = lawSem w P
  | [], _ => rfl
  | [a], ok => by
    show finQ v a = finQ w a
    unfold finQ
    rw [evQ_cg h (ok a (by simp))]
  | [a, b], ok => by
    show finQ v a = finQ w a
    unfold finQ
    rw [evQ_cg h (ok a (by simp))]
  | [a, b, c], ok => by
    show finQ v a = finQ w a
    unfold finQ
    rw [evQ_cg h (ok a (by simp))]
  | a :: b :: c :: e :: r, ok => by
    have e3 : finQ v c = finQ w c := by
      unfold finQ
      rw [evQ_cg h (ok c (by simp))]
    rw [lawSem, lawSem, evQ_cg h (ok a (by simp)), evQ_cg h (ok b (by simp)), lawSem_cg h (e :: r) (fun Q hQ => ok Q (List.mem_cons_of_mem _ (List.mem_cons_of_mem _ (List.mem_cons_of_mem _ hQ)))), e3]
def vr (a0 a1 a2 a3 a4 a5 a6 a7 a8 : Int32) : Nat → Int32
  | 0 => a0 | 1 => a1 | 2 => a2 | 3 => a3 | 4 => a4 | 5 => a5 | 6 => a6 | 7 => a7 | _ => a8
def heldF (v m : Int32) : Int32 := if 0 < (if v < m then v else m) then (if v < m then v else m) else 0
def tkF (PT : List (List Ins)) (need level age worth feature year sealed which : Int32) : Int32 := heldF (lawSem (vr need level age worth feature year sealed which 0) PT) 9
def bdF (PB : List (List Ins)) (age worth year sealed which print : Int32) : Int32 := heldF (lawSem (vr 0 0 age worth 0 year sealed which print) PB) 99
def grF (PG : List (List Ins)) (level age feature year sealed which : Int32) : Int32 := heldF (lawSem (vr 0 level age 0 feature year sealed which 0) PG) 9
def fdF (PF : List (List Ins)) (need worth feature year which print : Int32) : Int32 := heldF (lawSem (vr need 0 0 worth feature year 0 which print) PF) 9
abbrev PK (r : Int32) (fm : Value) (X : Nat × (Nat → Int32)) (s : Nat → Nat → Int32) (t : Nat → Nat → Int64) : Option Value → ab_H → Prop := fun v h => v = some (.int r) ∧ ∃ s', h = HA fm X s' t ∧ Kp1 s s'
section
variable (d : Nat) (fm : Value) (X : Nat × (Nat → Int32)) (s : Nat → Nat → Int32) (t : Nat → Nat → Int64)
theorem t_Ha_takesOf {P : List (List Ins)} (hL : CLaw s 22 P) {c e f : Nat} (hc : c < 5) (he : e < 6) (hf : f < 3) (l n : Int32) : ab_T g_Ha_takesOf (d + 3) (0, 0) [.ref 9, .int (nI c), .int (nI e), .int (nI f), .int l, .int n] (HA fm X s t) (PK (tkF P (s 20 (3 * e + f)) l (s 16 c + s 11 39) (s 19 e) (nI f) (s 11 39) n (nI c)) fm X s t) := by
  refine ab_T_of (M := m_Ha_takesOf) rfl rfl (Nat.le_of_ble_eq_true rfl) ?_
  show ab_Z m_Ha_takesOf _ _ _ 0 [_, _, _, _, _, _] [] _
  refine ab_go ok_Ha_takesOf 3 rfl ?_
  show ab_Z m_Ha_takesOf _ _ _ 3 [_, _, _, _, _, _] [_, _] _
  refine ab_cl ok_Ha_takesOf rfl [_, _] [] rfl rfl (Nat.le_of_ble_eq_true rfl) (t_JA_fill_12 (d + 2) fm X s t 0) ?_
  rintro _ _ ⟨rfl, rfl⟩
  show ab_Z m_Ha_takesOf _ _ _ 4 [_, _, _, _, _, _] [] _
  refine ab_go ok_Ha_takesOf 7 rfl ?_
  show ab_Z m_Ha_takesOf _ _ _ 11 [_, _, _, _, _, _] [_, _, _, _, _] _
  refine ab_cl ok_Ha_takesOf rfl [_, _, _] [_, _] rfl ⟨_, _, rfl, rfl, Or.inl ⟨_, _, rfl, rfl⟩⟩ (Nat.le_of_ble_eq_true rfl) (t_Te_needOf (d + 1) fm X _ t he hf) ?_
  rintro _ _ ⟨rfl, rfl⟩
  show ab_Z m_Ha_takesOf _ _ _ 12 [_, _, _, _, _, _] [_, _, _] _
  refine ab_go ok_Ha_takesOf 1 rfl ?_
  show ab_Z m_Ha_takesOf _ _ _ 13 [_, _, _, _, _, _] [] _
  refine ab_go ok_Ha_takesOf 4 rfl ?_
  show ab_Z m_Ha_takesOf _ _ _ 17 [_, _, _, _, _, _] [_, _, _] _
  refine ab_go ok_Ha_takesOf 1 rfl ?_
  show ab_Z m_Ha_takesOf _ _ _ 18 [_, _, _, _, _, _] [] _
  refine ab_go ok_Ha_takesOf 7 rfl ?_
  show ab_Z m_Ha_takesOf _ _ _ 25 [_, _, _, _, _, _] [_, _, _, _, _] _
  refine ab_cl ok_Ha_takesOf rfl [_] [_, _, _, _] rfl ⟨_, _, rfl, rfl, Or.inl ⟨_, _, rfl, rfl⟩⟩ (Nat.le_of_ble_eq_true rfl) (t_Sc_yearNow (d + 2) fm X _ t) ?_
  rintro _ _ ⟨rfl, rfl⟩
  show ab_Z m_Ha_takesOf _ _ _ 26 [_, _, _, _, _, _] [_, _, _, _, _] _
  refine ab_cl ok_Ha_takesOf rfl [_, _, _] [_, _] rfl ⟨_, _, rfl, rfl, Or.inl ⟨_, _, rfl, rfl⟩⟩ (Nat.le_of_ble_eq_true rfl) (t_Ha_ageIn (d + 1) fm X _ t _ hc) ?_
  rintro _ _ ⟨rfl, rfl⟩
  show ab_Z m_Ha_takesOf _ _ _ 27 [_, _, _, _, _, _] [_, _, _] _
  refine ab_go ok_Ha_takesOf 1 rfl ?_
  show ab_Z m_Ha_takesOf _ _ _ 28 [_, _, _, _, _, _] [] _
  refine ab_go ok_Ha_takesOf 6 rfl ?_
  show ab_Z m_Ha_takesOf _ _ _ 34 [_, _, _, _, _, _] [_, _, _, _] _
  refine ab_cl ok_Ha_takesOf rfl [_, _] [_, _] rfl ⟨_, _, rfl, rfl, Or.inl ⟨_, _, rfl, rfl⟩⟩ (Nat.le_of_ble_eq_true rfl) (t_Te_worthOf (d + 1) fm X _ t he) ?_
  rintro _ _ ⟨rfl, rfl⟩
  show ab_Z m_Ha_takesOf _ _ _ 35 [_, _, _, _, _, _] [_, _, _] _
  refine ab_go ok_Ha_takesOf 1 rfl ?_
  show ab_Z m_Ha_takesOf _ _ _ 36 [_, _, _, _, _, _] [] _
  refine ab_go ok_Ha_takesOf 4 rfl ?_
  show ab_Z m_Ha_takesOf _ _ _ 40 [_, _, _, _, _, _] [_, _, _] _
  refine ab_go ok_Ha_takesOf 1 rfl ?_
  show ab_Z m_Ha_takesOf _ _ _ 41 [_, _, _, _, _, _] [] _
  refine ab_go ok_Ha_takesOf 5 rfl ?_
  show ab_Z m_Ha_takesOf _ _ _ 46 [_, _, _, _, _, _] [_, _, _] _
  refine ab_cl ok_Ha_takesOf rfl [_] [_, _] rfl ⟨_, _, rfl, rfl, Or.inl ⟨_, _, rfl, rfl⟩⟩ (Nat.le_of_ble_eq_true rfl) (t_Sc_yearNow (d + 2) fm X _ t) ?_
  rintro _ _ ⟨rfl, rfl⟩
  show ab_Z m_Ha_takesOf _ _ _ 47 [_, _, _, _, _, _] [_, _, _] _
  refine ab_go ok_Ha_takesOf 1 rfl ?_
  show ab_Z m_Ha_takesOf _ _ _ 48 [_, _, _, _, _, _] [] _
  refine ab_go ok_Ha_takesOf 4 rfl ?_
  show ab_Z m_Ha_takesOf _ _ _ 52 [_, _, _, _, _, _] [_, _, _] _
  refine ab_go ok_Ha_takesOf 1 rfl ?_
  show ab_Z m_Ha_takesOf _ _ _ 53 [_, _, _, _, _, _] [] _
  refine ab_go ok_Ha_takesOf 4 rfl ?_
  show ab_Z m_Ha_takesOf _ _ _ 57 [_, _, _, _, _, _] [_, _, _] _
  refine ab_go ok_Ha_takesOf 1 rfl ?_
  show ab_Z m_Ha_takesOf _ _ _ 58 [_, _, _, _, _, _] [] _
  refine ab_go ok_Ha_takesOf 5 rfl ?_
  show ab_Z m_Ha_takesOf _ _ _ 63 [_, _, _, _, _, _] [_, _] _
  refine ab_cl ok_Ha_takesOf rfl [_, _] [] rfl ⟨_, _, rfl, rfl, Or.inl ⟨_, _, rfl, rfl⟩⟩ (Nat.le_of_ble_eq_true rfl) (t_La_valueOf_22 d fm X _ t (CLaw_kp (by simp) (Kp1.to2 (Kp1.u (Kp1.u (Kp1.u (Kp1.u (Kp1.u (Kp1.u (Kp1.u (Kp1.u (Kp1.r (Kp1.rf s))))))))))) hL)) ?_
  rintro _ _ ⟨rfl, g, b, rfl⟩
  show ab_Z m_Ha_takesOf _ _ _ 64 [_, _, _, _, _, _] [_] _
  refine ab_go ok_Ha_takesOf 1 rfl ?_
  show ab_Z m_Ha_takesOf _ _ _ 65 [_, _, _, _, _, _] [_, _] _
  refine ab_cl ok_Ha_takesOf rfl [_, _] [] rfl rfl (Nat.le_of_ble_eq_true rfl) (t_SF_heldTo (d + 1) _ _ _) ?_
  rintro _ _ ⟨rfl, rfl⟩
  show ab_Z m_Ha_takesOf _ _ _ 66 [_, _, _, _, _, _] [_] _
  refine ab_rI ok_Ha_takesOf rfl (⟨?_, _, rfl, Kp1.l (by simp) (Kp1.u (Kp1.u (Kp1.u (Kp1.u (Kp1.u (Kp1.u (Kp1.u (Kp1.u (Kp1.r (Kp1.rf s))))))))))⟩)
  show some (Value.int (heldF _ 9)) = some (Value.int (heldF _ 9))
  rw [lawSem_cg (fun j hj => ?_) P hL.2.2.2.2.2.2]
  match j, hj with
  | 0, _ => rfl
  | 1, _ => rfl
  | 2, _ => rfl
  | 3, _ => rfl
  | 4, _ => rfl
  | 5, _ => rfl
  | 6, _ => rfl
  | 7, _ => rfl
  | 8, _ => rfl
theorem t_Ha_bindsOf {P : List (List Ins)} (hL : CLaw s 30 P) {c e : Nat} (hc : c < 5) (he : e < 6) (n pr y : Int32) : ab_T g_Ha_bindsOf (d + 3) (0, 0) [.ref 9, .int (nI c), .int (nI e), .int n, .int pr, .int y] (HA fm X s t) (PK (bdF P (s 16 c + y) (s 19 e) y n (nI c) pr) fm X s t) := by
  refine ab_T_of (M := m_Ha_bindsOf) rfl rfl (Nat.le_of_ble_eq_true rfl) ?_
  show ab_Z m_Ha_bindsOf _ _ _ 0 [_, _, _, _, _, _] [] _
  refine ab_go ok_Ha_bindsOf 3 rfl ?_
  show ab_Z m_Ha_bindsOf _ _ _ 3 [_, _, _, _, _, _] [_, _] _
  refine ab_cl ok_Ha_bindsOf rfl [_, _] [] rfl rfl (Nat.le_of_ble_eq_true rfl) (t_JA_fill_12 (d + 2) fm X s t 0) ?_
  rintro _ _ ⟨rfl, rfl⟩
  show ab_Z m_Ha_bindsOf _ _ _ 4 [_, _, _, _, _, _] [] _
  refine ab_go ok_Ha_bindsOf 6 rfl ?_
  show ab_Z m_Ha_bindsOf _ _ _ 10 [_, _, _, _, _, _] [_, _, _, _, _] _
  refine ab_cl ok_Ha_bindsOf rfl [_, _, _] [_, _] rfl ⟨_, _, rfl, rfl, Or.inl ⟨_, _, rfl, rfl⟩⟩ (Nat.le_of_ble_eq_true rfl) (t_Ha_ageIn (d + 1) fm X _ t _ hc) ?_
  rintro _ _ ⟨rfl, rfl⟩
  show ab_Z m_Ha_bindsOf _ _ _ 11 [_, _, _, _, _, _] [_, _, _] _
  refine ab_go ok_Ha_bindsOf 1 rfl ?_
  show ab_Z m_Ha_bindsOf _ _ _ 12 [_, _, _, _, _, _] [] _
  refine ab_go ok_Ha_bindsOf 6 rfl ?_
  show ab_Z m_Ha_bindsOf _ _ _ 18 [_, _, _, _, _, _] [_, _, _, _] _
  refine ab_cl ok_Ha_bindsOf rfl [_, _] [_, _] rfl ⟨_, _, rfl, rfl, Or.inl ⟨_, _, rfl, rfl⟩⟩ (Nat.le_of_ble_eq_true rfl) (t_Te_worthOf (d + 1) fm X _ t he) ?_
  rintro _ _ ⟨rfl, rfl⟩
  show ab_Z m_Ha_bindsOf _ _ _ 19 [_, _, _, _, _, _] [_, _, _] _
  refine ab_go ok_Ha_bindsOf 1 rfl ?_
  show ab_Z m_Ha_bindsOf _ _ _ 20 [_, _, _, _, _, _] [] _
  refine ab_go ok_Ha_bindsOf 4 rfl ?_
  show ab_Z m_Ha_bindsOf _ _ _ 24 [_, _, _, _, _, _] [_, _, _] _
  refine ab_go ok_Ha_bindsOf 1 rfl ?_
  show ab_Z m_Ha_bindsOf _ _ _ 25 [_, _, _, _, _, _] [] _
  refine ab_go ok_Ha_bindsOf 4 rfl ?_
  show ab_Z m_Ha_bindsOf _ _ _ 29 [_, _, _, _, _, _] [_, _, _] _
  refine ab_go ok_Ha_bindsOf 1 rfl ?_
  show ab_Z m_Ha_bindsOf _ _ _ 30 [_, _, _, _, _, _] [] _
  refine ab_go ok_Ha_bindsOf 4 rfl ?_
  show ab_Z m_Ha_bindsOf _ _ _ 34 [_, _, _, _, _, _] [_, _, _] _
  refine ab_go ok_Ha_bindsOf 1 rfl ?_
  show ab_Z m_Ha_bindsOf _ _ _ 35 [_, _, _, _, _, _] [] _
  refine ab_go ok_Ha_bindsOf 4 rfl ?_
  show ab_Z m_Ha_bindsOf _ _ _ 39 [_, _, _, _, _, _] [_, _, _] _
  refine ab_go ok_Ha_bindsOf 1 rfl ?_
  show ab_Z m_Ha_bindsOf _ _ _ 40 [_, _, _, _, _, _] [] _
  refine ab_go ok_Ha_bindsOf 5 rfl ?_
  show ab_Z m_Ha_bindsOf _ _ _ 45 [_, _, _, _, _, _] [_, _] _
  refine ab_cl ok_Ha_bindsOf rfl [_, _] [] rfl ⟨_, _, rfl, rfl, Or.inl ⟨_, _, rfl, rfl⟩⟩ (Nat.le_of_ble_eq_true rfl) (t_La_valueOf_30 d fm X _ t (CLaw_kp (by simp) (Kp1.to2 (Kp1.u (Kp1.u (Kp1.u (Kp1.u (Kp1.u (Kp1.u (Kp1.r (Kp1.rf s))))))))) hL)) ?_
  rintro _ _ ⟨rfl, g, b, rfl⟩
  show ab_Z m_Ha_bindsOf _ _ _ 46 [_, _, _, _, _, _] [_] _
  refine ab_go ok_Ha_bindsOf 1 rfl ?_
  show ab_Z m_Ha_bindsOf _ _ _ 47 [_, _, _, _, _, _] [_, _] _
  refine ab_cl ok_Ha_bindsOf rfl [_, _] [] rfl rfl (Nat.le_of_ble_eq_true rfl) (t_SF_heldTo (d + 1) _ _ _) ?_
  rintro _ _ ⟨rfl, rfl⟩
  show ab_Z m_Ha_bindsOf _ _ _ 48 [_, _, _, _, _, _] [_] _
  refine ab_rI ok_Ha_bindsOf rfl (⟨?_, _, rfl, Kp1.l (by simp) (Kp1.u (Kp1.u (Kp1.u (Kp1.u (Kp1.u (Kp1.u (Kp1.r (Kp1.rf s))))))))⟩)
  show some (Value.int (heldF _ 99)) = some (Value.int (heldF _ 99))
  rw [lawSem_cg (fun j hj => ?_) P hL.2.2.2.2.2.2]
  match j, hj with
  | 0, _ => rfl
  | 1, _ => rfl
  | 2, _ => rfl
  | 3, _ => rfl
  | 4, _ => rfl
  | 5, _ => rfl
  | 6, _ => rfl
  | 7, _ => rfl
  | 8, _ => rfl
theorem t_Ha_grown {P : List (List Ins)} (hL : CLaw s 26 P) {c f : Nat} (hc : c < 5) (hf : f < 3) (l n y : Int32) : ab_T g_Ha_grown (d + 3) (0, 0) [.ref 9, .int (nI c), .int (nI f), .int l, .int n, .int y] (HA fm X s t) (PK (if s 17 (3 * c + f) < l + grF P l (s 16 c + y) (nI f) y n (nI c) then s 17 (3 * c + f) else l + grF P l (s 16 c + y) (nI f) y n (nI c)) fm X s t) := by
  refine ab_T_of (M := m_Ha_grown) rfl rfl (Nat.le_of_ble_eq_true rfl) ?_
  show ab_Z m_Ha_grown _ _ _ 0 [_, _, _, _, _, _, _] [] _
  refine ab_go ok_Ha_grown 3 rfl ?_
  show ab_Z m_Ha_grown _ _ _ 3 [_, _, _, _, _, _, _] [_, _] _
  refine ab_cl ok_Ha_grown rfl [_, _] [] rfl rfl (Nat.le_of_ble_eq_true rfl) (t_JA_fill_12 (d + 2) fm X s t 0) ?_
  rintro _ _ ⟨rfl, rfl⟩
  show ab_Z m_Ha_grown _ _ _ 4 [_, _, _, _, _, _, _] [] _
  refine ab_go ok_Ha_grown 4 rfl ?_
  show ab_Z m_Ha_grown _ _ _ 8 [_, _, _, _, _, _, _] [_, _, _] _
  refine ab_go ok_Ha_grown 1 rfl ?_
  show ab_Z m_Ha_grown _ _ _ 9 [_, _, _, _, _, _, _] [] _
  refine ab_go ok_Ha_grown 6 rfl ?_
  show ab_Z m_Ha_grown _ _ _ 15 [_, _, _, _, _, _, _] [_, _, _, _, _] _
  refine ab_cl ok_Ha_grown rfl [_, _, _] [_, _] rfl ⟨_, _, rfl, rfl, Or.inl ⟨_, _, rfl, rfl⟩⟩ (Nat.le_of_ble_eq_true rfl) (t_Ha_ageIn (d + 1) fm X _ t _ hc) ?_
  rintro _ _ ⟨rfl, rfl⟩
  show ab_Z m_Ha_grown _ _ _ 16 [_, _, _, _, _, _, _] [_, _, _] _
  refine ab_go ok_Ha_grown 1 rfl ?_
  show ab_Z m_Ha_grown _ _ _ 17 [_, _, _, _, _, _, _] [] _
  refine ab_go ok_Ha_grown 4 rfl ?_
  show ab_Z m_Ha_grown _ _ _ 21 [_, _, _, _, _, _, _] [_, _, _] _
  refine ab_go ok_Ha_grown 1 rfl ?_
  show ab_Z m_Ha_grown _ _ _ 22 [_, _, _, _, _, _, _] [] _
  refine ab_go ok_Ha_grown 4 rfl ?_
  show ab_Z m_Ha_grown _ _ _ 26 [_, _, _, _, _, _, _] [_, _, _] _
  refine ab_go ok_Ha_grown 1 rfl ?_
  show ab_Z m_Ha_grown _ _ _ 27 [_, _, _, _, _, _, _] [] _
  refine ab_go ok_Ha_grown 4 rfl ?_
  show ab_Z m_Ha_grown _ _ _ 31 [_, _, _, _, _, _, _] [_, _, _] _
  refine ab_go ok_Ha_grown 1 rfl ?_
  show ab_Z m_Ha_grown _ _ _ 32 [_, _, _, _, _, _, _] [] _
  refine ab_go ok_Ha_grown 4 rfl ?_
  show ab_Z m_Ha_grown _ _ _ 36 [_, _, _, _, _, _, _] [_, _, _] _
  refine ab_go ok_Ha_grown 1 rfl ?_
  show ab_Z m_Ha_grown _ _ _ 37 [_, _, _, _, _, _, _] [] _
  refine ab_go ok_Ha_grown 5 rfl ?_
  show ab_Z m_Ha_grown _ _ _ 42 [_, _, _, _, _, _, _] [_, _] _
  refine ab_cl ok_Ha_grown rfl [_, _] [] rfl ⟨_, _, rfl, rfl, Or.inl ⟨_, _, rfl, rfl⟩⟩ (Nat.le_of_ble_eq_true rfl) (t_La_valueOf_26 d fm X _ t (CLaw_kp (by simp) (Kp1.to2 (Kp1.u (Kp1.u (Kp1.u (Kp1.u (Kp1.u (Kp1.u (Kp1.r (Kp1.rf s))))))))) hL)) ?_
  rintro _ _ ⟨rfl, g, b, rfl⟩
  show ab_Z m_Ha_grown _ _ _ 43 [_, _, _, _, _, _, _] [_] _
  refine ab_go ok_Ha_grown 1 rfl ?_
  show ab_Z m_Ha_grown _ _ _ 44 [_, _, _, _, _, _, _] [_, _] _
  refine ab_cl ok_Ha_grown rfl [_, _] [] rfl rfl (Nat.le_of_ble_eq_true rfl) (t_SF_heldTo (d + 1) _ _ _) ?_
  rintro _ _ ⟨rfl, rfl⟩
  show ab_Z m_Ha_grown _ _ _ 45 [_, _, _, _, _, _, _] [_] _
  refine ab_go ok_Ha_grown 8 rfl ?_
  show ab_Z m_Ha_grown _ _ _ 53 [_, _, _, _, _, _, _] [_, _, _, _] _
  refine ab_cl ok_Ha_grown rfl [_, _, _] [_] rfl ⟨_, _, rfl, rfl, Or.inl ⟨_, _, rfl, rfl⟩⟩ (Nat.le_of_ble_eq_true rfl) (t_Te_firstOf (d + 1) fm X _ t hc hf) ?_
  rintro _ _ ⟨rfl, rfl⟩
  show ab_Z m_Ha_grown _ _ _ 54 [_, _, _, _, _, _, _] [_, _] _
  refine ab_cl ok_Ha_grown rfl [_, _] [] rfl rfl (Nat.le_of_ble_eq_true rfl) (t_JM_min (d + 2) _ _ _) ?_
  rintro _ _ ⟨rfl, rfl⟩
  show ab_Z m_Ha_grown _ _ _ 55 [_, _, _, _, _, _, _] [_] _
  refine ab_rI ok_Ha_grown rfl (⟨?_, _, rfl, Kp1.l (by simp) (Kp1.u (Kp1.u (Kp1.u (Kp1.u (Kp1.u (Kp1.u (Kp1.r (Kp1.rf s))))))))⟩)
  show some (Value.int (if s 17 (3 * c + f) < l + heldF _ 9 then s 17 (3 * c + f) else l + heldF _ 9)) = some (Value.int (if s 17 (3 * c + f) < l + heldF _ 9 then s 17 (3 * c + f) else l + heldF _ 9))
  rw [lawSem_cg (fun j hj => ?_) P hL.2.2.2.2.2.2]
  match j, hj with
  | 0, _ => rfl
  | 1, _ => rfl
  | 2, _ => rfl
  | 3, _ => rfl
  | 4, _ => rfl
  | 5, _ => rfl
  | 6, _ => rfl
  | 7, _ => rfl
  | 8, _ => rfl
theorem t_Ha_faded {P : List (List Ins)} (hL : CLaw s 34 P) {e f : Nat} (he : e < 6) (hf : f < 3) (pr y : Int32) : ab_T g_Ha_faded (d + 3) (0, 0) [.ref 9, .int (nI e), .int (nI f), .int pr, .int y] (HA fm X s t) (PK (if pr - fdF P (s 20 (3 * e + f)) (s 19 e) (nI f) y (nI e) pr < 0 then 0 else pr - fdF P (s 20 (3 * e + f)) (s 19 e) (nI f) y (nI e) pr) fm X s t) := by
  refine ab_T_of (M := m_Ha_faded) rfl rfl (Nat.le_of_ble_eq_true rfl) ?_
  show ab_Z m_Ha_faded _ _ _ 0 [_, _, _, _, _, _] [] _
  refine ab_go ok_Ha_faded 3 rfl ?_
  show ab_Z m_Ha_faded _ _ _ 3 [_, _, _, _, _, _] [_, _] _
  refine ab_cl ok_Ha_faded rfl [_, _] [] rfl rfl (Nat.le_of_ble_eq_true rfl) (t_JA_fill_12 (d + 2) fm X s t 0) ?_
  rintro _ _ ⟨rfl, rfl⟩
  show ab_Z m_Ha_faded _ _ _ 4 [_, _, _, _, _, _] [] _
  refine ab_go ok_Ha_faded 7 rfl ?_
  show ab_Z m_Ha_faded _ _ _ 11 [_, _, _, _, _, _] [_, _, _, _, _] _
  refine ab_cl ok_Ha_faded rfl [_, _, _] [_, _] rfl ⟨_, _, rfl, rfl, Or.inl ⟨_, _, rfl, rfl⟩⟩ (Nat.le_of_ble_eq_true rfl) (t_Te_needOf (d + 1) fm X _ t he hf) ?_
  rintro _ _ ⟨rfl, rfl⟩
  show ab_Z m_Ha_faded _ _ _ 12 [_, _, _, _, _, _] [_, _, _] _
  refine ab_go ok_Ha_faded 1 rfl ?_
  show ab_Z m_Ha_faded _ _ _ 13 [_, _, _, _, _, _] [] _
  refine ab_go ok_Ha_faded 6 rfl ?_
  show ab_Z m_Ha_faded _ _ _ 19 [_, _, _, _, _, _] [_, _, _, _] _
  refine ab_cl ok_Ha_faded rfl [_, _] [_, _] rfl ⟨_, _, rfl, rfl, Or.inl ⟨_, _, rfl, rfl⟩⟩ (Nat.le_of_ble_eq_true rfl) (t_Te_worthOf (d + 1) fm X _ t he) ?_
  rintro _ _ ⟨rfl, rfl⟩
  show ab_Z m_Ha_faded _ _ _ 20 [_, _, _, _, _, _] [_, _, _] _
  refine ab_go ok_Ha_faded 1 rfl ?_
  show ab_Z m_Ha_faded _ _ _ 21 [_, _, _, _, _, _] [] _
  refine ab_go ok_Ha_faded 4 rfl ?_
  show ab_Z m_Ha_faded _ _ _ 25 [_, _, _, _, _, _] [_, _, _] _
  refine ab_go ok_Ha_faded 1 rfl ?_
  show ab_Z m_Ha_faded _ _ _ 26 [_, _, _, _, _, _] [] _
  refine ab_go ok_Ha_faded 4 rfl ?_
  show ab_Z m_Ha_faded _ _ _ 30 [_, _, _, _, _, _] [_, _, _] _
  refine ab_go ok_Ha_faded 1 rfl ?_
  show ab_Z m_Ha_faded _ _ _ 31 [_, _, _, _, _, _] [] _
  refine ab_go ok_Ha_faded 4 rfl ?_
  show ab_Z m_Ha_faded _ _ _ 35 [_, _, _, _, _, _] [_, _, _] _
  refine ab_go ok_Ha_faded 1 rfl ?_
  show ab_Z m_Ha_faded _ _ _ 36 [_, _, _, _, _, _] [] _
  refine ab_go ok_Ha_faded 4 rfl ?_
  show ab_Z m_Ha_faded _ _ _ 40 [_, _, _, _, _, _] [_, _, _] _
  refine ab_go ok_Ha_faded 1 rfl ?_
  show ab_Z m_Ha_faded _ _ _ 41 [_, _, _, _, _, _] [] _
  refine ab_go ok_Ha_faded 5 rfl ?_
  show ab_Z m_Ha_faded _ _ _ 46 [_, _, _, _, _, _] [_, _] _
  refine ab_cl ok_Ha_faded rfl [_, _] [] rfl ⟨_, _, rfl, rfl, Or.inl ⟨_, _, rfl, rfl⟩⟩ (Nat.le_of_ble_eq_true rfl) (t_La_valueOf_34 d fm X _ t (CLaw_kp (by simp) (Kp1.to2 (Kp1.u (Kp1.u (Kp1.u (Kp1.u (Kp1.u (Kp1.u (Kp1.r (Kp1.rf s))))))))) hL)) ?_
  rintro _ _ ⟨rfl, g, b, rfl⟩
  show ab_Z m_Ha_faded _ _ _ 47 [_, _, _, _, _, _] [_] _
  refine ab_go ok_Ha_faded 1 rfl ?_
  show ab_Z m_Ha_faded _ _ _ 48 [_, _, _, _, _, _] [_, _] _
  refine ab_cl ok_Ha_faded rfl [_, _] [] rfl rfl (Nat.le_of_ble_eq_true rfl) (t_SF_heldTo (d + 1) _ _ _) ?_
  rintro _ _ ⟨rfl, rfl⟩
  show ab_Z m_Ha_faded _ _ _ 49 [_, _, _, _, _, _] [_] _
  refine ab_go ok_Ha_faded 5 rfl ?_
  show ab_Z m_Ha_faded _ _ _ 54 [_, _, _, _, _, _] [_, _] _
  refine ab_cl ok_Ha_faded rfl [_, _] [] rfl rfl (Nat.le_of_ble_eq_true rfl) (t_JM_max (d + 2) _ _ _) ?_
  rintro _ _ ⟨rfl, rfl⟩
  show ab_Z m_Ha_faded _ _ _ 55 [_, _, _, _, _, _] [_] _
  refine ab_rI ok_Ha_faded rfl (⟨?_, _, rfl, Kp1.l (by simp) (Kp1.u (Kp1.u (Kp1.u (Kp1.u (Kp1.u (Kp1.u (Kp1.r (Kp1.rf s))))))))⟩)
  show some (Value.int (if pr - heldF _ 9 < 0 then 0 else pr - heldF _ 9)) = some (Value.int (if pr - heldF _ 9 < 0 then 0 else pr - heldF _ 9))
  rw [lawSem_cg (fun j hj => ?_) P hL.2.2.2.2.2.2]
  match j, hj with
  | 0, _ => rfl
  | 1, _ => rfl
  | 2, _ => rfl
  | 3, _ => rfl
  | 4, _ => rfl
  | 5, _ => rfl
  | 6, _ => rfl
  | 7, _ => rfl
  | 8, _ => rfl
end

