/-! the reference is made (written by gen_init3.py) -/
def opR {α : Type} (z : α) : List (Nat × Option (Nat × α)) → (Nat → Nat → α) → Nat → Nat → α
  | [], f => f
  | (n, none) :: r, f => opR z r (ab_ro f n (fun _ => z))
  | (p, some (k, v)) :: r, f => opR z r (ab_up f p k v)
theorem opR_o {α : Type} (z : α) {c : Nat} : ∀ (ops : List (Nat × Option (Nat × α))) (f : Nat → Nat → α), (ops.all fun q => !(q.1 == c)) = true → opR z ops f c = f c
  | [], f, _ => rfl
  | (n, none) :: r, f, h => by
    rw [List.all_cons, Bool.and_eq_true] at h
    have h1 : ¬ c = n := fun e => by subst e; simp at h
    rw [opR, opR_o z r _ h.2, ab_ro_o h1]
  | (p, some (k, v)) :: r, f, h => by
    rw [List.all_cons, Bool.and_eq_true] at h
    have h1 : ¬ c = p := fun e => by subst e; simp at h
    rw [opR, opR_o z r _ h.2, ab_up_o h1]
theorem opR_lo {α : Type} (z : α) {c N : Nat} (hc : c < N) (ops : List (Nat × Option (Nat × α))) (f : Nat → Nat → α) (h : (ops.all fun q => Nat.ble N q.1) = true) : opR z ops f c = f c := by
  refine opR_o z ops f ?_
  rw [List.all_eq_true] at h ⊢
  intro q hq
  have := Nat.le_of_ble_eq_true (h q hq)
  simp
  omega
/-- a table of references, row by row -/
def roL (fm : Value) (l : List (List Value)) (c k : Nat) : Value := if c = 9006 then fm else (l.getD c []).getD k .null
def opL : List (Nat × Option (Nat × Value)) → List (List Value) → Option (List (List Value))
  | [], l => some l
  | (n, none) :: r, l => if l.length = n ∧ n < 9000 then opL r (l ++ [List.replicate ((shA.getD n (0, 0)).2 * ((shA.getD n (0, 0)).1 / 10) / ((shA.getD n (0, 0)).1 / 10)) .null]) else none
  | (p, some (k, v)) :: r, l => if p < l.length ∧ p < 9000 ∧ k < (l.getD p []).length then opL r (l.set p ((l.getD p []).set k v)) else none
theorem roL_new {fm : Value} {l : List (List Value)} {n m : Nat} (h : l.length = n) (hn : n < 9000) : ab_ro (roL fm l) n (fun _ => .null) = roL fm (l ++ [List.replicate m .null]) := by
  funext c k
  by_cases hc : c = n
  · subst hc
    rw [ab_ro_c]
    unfold roL
    rw [if_neg (by omega), List.getD_eq_getElem?_getD, List.getD_eq_getElem?_getD, ← h, List.getElem?_concat_length]
    show Value.null = (List.replicate m Value.null)[k]?.getD .null
    rw [List.getElem?_replicate]
    split <;> rfl
  · rw [ab_ro_o hc]
    unfold roL
    by_cases h6 : c = 9006
    · rw [if_pos h6, if_pos h6]
    · rw [if_neg h6, if_neg h6]
      congr 1
      rw [List.getD_eq_getElem?_getD, List.getD_eq_getElem?_getD]
      by_cases hl : c < l.length
      · rw [List.getElem?_append_left hl]
      · rw [List.getElem?_eq_none (by omega), List.getElem?_eq_none (by simp; omega)]
theorem roL_up {fm : Value} {l : List (List Value)} {p k : Nat} {v : Value} (hp : p < l.length) (hn : p < 9000) (hk : k < (l.getD p []).length) : ab_up (roL fm l) p k v = roL fm (l.set p ((l.getD p []).set k v)) := by
  funext c j
  by_cases hc : c = p
  · subst hc
    rw [ab_up_c]
    show (if j = k then v else roL fm l c j) = roL fm (l.set c ((l.getD c []).set k v)) c j
    unfold roL
    rw [if_neg (show ¬ c = 9006 by omega), if_neg (show ¬ c = 9006 by omega), List.getD_eq_getElem?_getD (l := l.set c _), List.getElem?_set_self hp]
    show (if j = k then v else _) = ((l.getD c []).set k v).getD j .null
    rw [List.getD_eq_getElem?_getD (l := (l.getD c []).set k v), List.getElem?_set]
    by_cases hj : j = k
    · rw [if_pos hj, if_pos hj.symm, if_pos hk]; rfl
    · rw [if_neg hj, if_neg (fun z => hj z.symm), ← List.getD_eq_getElem?_getD]
  · rw [ab_up_o hc]
    unfold roL
    by_cases h6 : c = 9006
    · rw [if_pos h6, if_pos h6]
    · rw [if_neg h6, if_neg h6]
      congr 1
      rw [List.getD_eq_getElem?_getD, List.getD_eq_getElem?_getD, List.getElem?_set_ne (fun z => hc z.symm)]
theorem opL_e (fm : Value) : ∀ (ops : List (Nat × Option (Nat × Value))) (l l' : List (List Value)), opL ops l = some l' → opR .null ops (roL fm l) = roL fm l'
  | [], l, l', h => by rw [opL] at h; cases h; rfl
  | (n, none) :: r, l, l', h => by
    rw [opL] at h
    split at h
    · rename_i h1
      rw [opR, roL_new h1.1 h1.2]
      exact opL_e fm r _ l' h
    · cases h
  | (p, some (k, v)) :: r, l, l', h => by
    rw [opL] at h
    split at h
    · rename_i h1
      rw [opR, roL_up h1.1 h1.2.1 h1.2.2]
      exact opL_e fm r _ l' h
    · cases h
def apF (x : Int64) (c : Int32) : Int64 := if c = 0 then x else 27 * x + (c - 97 + 1).toInt64
def keyV : List (List Int32) := [[99, 108, 101, 114, 107, 0, 0], [100, 101, 101, 100, 0, 0, 0], [116, 114, 101, 97, 116, 121, 0], [116, 97, 107, 101, 115, 0, 0], [103, 114, 111, 119, 115, 0, 0], [98, 105, 110, 100, 115, 0, 0], [102, 97, 100, 101, 115, 0, 0], [115, 108, 105, 112, 115, 0, 0], [115, 101, 101, 100, 0, 0, 0], [105, 102, 0, 0, 0, 0, 0], [116, 104, 101, 110, 0, 0, 0], [101, 108, 115, 101, 0, 0, 0], [110, 101, 101, 100, 0, 0, 0], [108, 101, 118, 101, 108, 0, 0], [97, 103, 101, 0, 0, 0, 0], [119, 111, 114, 116, 104, 0, 0], [102, 101, 97, 116, 117, 114, 101], [121, 101, 97, 114, 0, 0, 0], [115, 101, 97, 108, 101, 100, 0], [119, 104, 105, 99, 104, 0, 0], [112, 114, 105, 110, 116, 0, 0]]
theorem key_e : ∀ k, k < 21 → (keyV.getD k []).foldl apF 0 = lN (cdL 27 (wdL.getD k [])) := by decide +kernel
def opMoS : List (Nat × Option (Nat × Int32)) := [(82, none), (83, none), (84, none), (85, none), (86, none), (87, none), (88, none), (81, some (17, -1)), (89, none), (90, none), (91, none), (92, none), (93, none), (94, none), (95, none), (96, none), (97, none), (98, none), (99, none), (100, none), (101, none), (102, none), (103, none), (104, none), (105, none), (106, none), (107, none), (108, none), (109, none), (110, none), (111, none), (112, none), (113, none), (114, none), (115, none), (116, none), (117, none), (118, none), (119, none), (120, none), (121, none), (122, none), (123, none), (124, none), (125, none), (126, none), (127, none), (128, none)]
def opMoT : List (Nat × Option (Nat × Int64)) := [(82, none), (83, none), (84, none), (85, none), (86, none), (87, none), (88, none), (89, none), (90, none), (91, none), (92, none), (93, none), (94, none), (95, none), (96, none), (97, none), (98, none), (99, none), (100, none), (101, none), (102, none), (103, none), (104, none), (105, none), (106, none), (107, none), (108, none), (109, none), (110, none), (111, none), (112, none), (113, none), (114, none), (115, none), (116, none), (117, none), (118, none), (119, none), (120, none), (121, none), (122, none), (123, none), (124, none), (125, none), (126, none), (127, none), (128, none)]
def opMoR : List (Nat × Option (Nat × Value)) := [(82, none), (81, some (1, .ref 82)), (83, none), (81, some (3, .ref 83)), (84, none), (81, some (5, .ref 84)), (85, none), (81, some (6, .ref 85)), (86, none), (81, some (7, .ref 86)), (87, none), (81, some (8, .ref 87)), (88, none), (81, some (9, .ref 88)), (89, none), (81, some (21, .ref 89)), (90, none), (81, some (22, .ref 90)), (91, none), (81, some (23, .ref 91)), (92, none), (81, some (24, .ref 92)), (93, none), (81, some (25, .ref 93)), (94, none), (81, some (26, .ref 94)), (95, none), (81, some (27, .ref 95)), (96, none), (81, some (28, .ref 96)), (97, none), (81, some (29, .ref 97)), (98, none), (81, some (30, .ref 98)), (99, none), (81, some (31, .ref 99)), (100, none), (81, some (32, .ref 100)), (101, none), (81, some (33, .ref 101)), (102, none), (81, some (34, .ref 102)), (103, none), (81, some (35, .ref 103)), (104, none), (81, some (37, .ref 104)), (105, none), (81, some (38, .ref 105)), (106, none), (81, some (39, .ref 106)), (107, none), (81, some (40, .ref 107)), (108, none), (81, some (41, .ref 108)), (109, none), (81, some (43, .ref 109)), (110, none), (81, some (44, .ref 110)), (111, none), (81, some (45, .ref 111)), (112, none), (81, some (47, .ref 112)), (113, none), (81, some (48, .ref 113)), (114, none), (81, some (50, .ref 114)), (115, none), (81, some (51, .ref 115)), (116, none), (81, some (53, .ref 116)), (117, none), (81, some (54, .ref 117)), (118, none), (81, some (55, .ref 118)), (119, none), (81, some (57, .ref 119)), (120, none), (81, some (58, .ref 120)), (121, none), (81, some (60, .ref 121)), (122, none), (81, some (61, .ref 122)), (123, none), (81, some (62, .ref 123)), (124, none), (81, some (64, .ref 124)), (125, none), (81, some (65, .ref 125)), (126, none), (81, some (66, .ref 126)), (127, none), (81, some (67, .ref 127)), (128, none), (81, some (68, .ref 128))]
section
variable (d : Nat) (s : Nat → Nat → Int32) (t : Nat → Nat → Int64) (ro : Nat → Nat → Value) (X : Nat × (Nat → Int32))
theorem v_Mo_appends (h : ab_H) (x : Int64) (c : Int32) : ab_T g_Mo_appends d (0, 0) [.long x, .int c] h (PL (apF x c) h) := by
  unfold apF
  refine ab_T_of (M := m_Mo_appends) rfl rfl (Nat.le_of_ble_eq_true rfl) ?_
  show ab_Z m_Mo_appends _ _ _ 0 [_, _, _] [] _
  refine ab_go ok_Mo_appends 1 rfl ?_
  show ab_Z m_Mo_appends _ _ _ 1 [_, _, _] [_] _
  refine ab_br ok_Mo_appends rfl rfl ?_ ?_
  · intro h1
    show ab_Z m_Mo_appends _ _ _ 2 [_, _, _] [] _
    rw [if_pos h1]
    refine ab_go ok_Mo_appends 2 rfl ?_
    show ab_Z m_Mo_appends _ _ _ 14 [_, _, _] [_] _
    exact ab_rL ok_Mo_appends rfl (⟨rfl, rfl⟩)
  · intro h1
    show ab_Z m_Mo_appends _ _ _ 4 [_, _, _] [] _
    rw [if_neg h1]
    refine ab_go ok_Mo_appends 10 rfl ?_
    show ab_Z m_Mo_appends _ _ _ 14 [_, _, _] [_] _
    exact ab_rL ok_Mo_appends rfl (⟨rfl, rfl⟩)
theorem v_Mo_letters (h : ab_H) (a b c e f g i : Int32) : ab_T g_Mo_letters (d + 1) (0, 0) [.int a, .int b, .int c, .int e, .int f, .int g, .int i] h (PL ([a, b, c, e, f, g, i].foldl apF 0) h) := by
  refine ab_T_of (M := m_Mo_letters) rfl rfl (Nat.le_of_ble_eq_true rfl) ?_
  show ab_Z m_Mo_letters _ _ _ 0 [_, _, _, _, _, _, _] [] _
  refine ab_go ok_Mo_letters 2 rfl ?_
  show ab_Z m_Mo_letters _ _ _ 2 [_, _, _, _, _, _, _] [_, _] _
  refine ab_cl ok_Mo_letters rfl [_, _] [] rfl rfl (Nat.le_of_ble_eq_true rfl) (v_Mo_appends d _ _ _) ?_
  rintro _ _ ⟨rfl, rfl⟩
  show ab_Z m_Mo_letters _ _ _ 3 [_, _, _, _, _, _, _] [_] _
  refine ab_go ok_Mo_letters 1 rfl ?_
  show ab_Z m_Mo_letters _ _ _ 4 [_, _, _, _, _, _, _] [_, _] _
  refine ab_cl ok_Mo_letters rfl [_, _] [] rfl rfl (Nat.le_of_ble_eq_true rfl) (v_Mo_appends d _ _ _) ?_
  rintro _ _ ⟨rfl, rfl⟩
  show ab_Z m_Mo_letters _ _ _ 5 [_, _, _, _, _, _, _] [_] _
  refine ab_go ok_Mo_letters 1 rfl ?_
  show ab_Z m_Mo_letters _ _ _ 6 [_, _, _, _, _, _, _] [_, _] _
  refine ab_cl ok_Mo_letters rfl [_, _] [] rfl rfl (Nat.le_of_ble_eq_true rfl) (v_Mo_appends d _ _ _) ?_
  rintro _ _ ⟨rfl, rfl⟩
  show ab_Z m_Mo_letters _ _ _ 7 [_, _, _, _, _, _, _] [_] _
  refine ab_go ok_Mo_letters 1 rfl ?_
  show ab_Z m_Mo_letters _ _ _ 8 [_, _, _, _, _, _, _] [_, _] _
  refine ab_cl ok_Mo_letters rfl [_, _] [] rfl rfl (Nat.le_of_ble_eq_true rfl) (v_Mo_appends d _ _ _) ?_
  rintro _ _ ⟨rfl, rfl⟩
  show ab_Z m_Mo_letters _ _ _ 9 [_, _, _, _, _, _, _] [_] _
  refine ab_go ok_Mo_letters 1 rfl ?_
  show ab_Z m_Mo_letters _ _ _ 10 [_, _, _, _, _, _, _] [_, _] _
  refine ab_cl ok_Mo_letters rfl [_, _] [] rfl rfl (Nat.le_of_ble_eq_true rfl) (v_Mo_appends d _ _ _) ?_
  rintro _ _ ⟨rfl, rfl⟩
  show ab_Z m_Mo_letters _ _ _ 11 [_, _, _, _, _, _, _] [_] _
  refine ab_go ok_Mo_letters 1 rfl ?_
  show ab_Z m_Mo_letters _ _ _ 12 [_, _, _, _, _, _, _] [_, _] _
  refine ab_cl ok_Mo_letters rfl [_, _] [] rfl rfl (Nat.le_of_ble_eq_true rfl) (v_Mo_appends d _ _ _) ?_
  rintro _ _ ⟨rfl, rfl⟩
  show ab_Z m_Mo_letters _ _ _ 13 [_, _, _, _, _, _, _] [_] _
  refine ab_go ok_Mo_letters 1 rfl ?_
  show ab_Z m_Mo_letters _ _ _ 14 [_, _, _, _, _, _, _] [_, _] _
  refine ab_cl ok_Mo_letters rfl [_, _] [] rfl rfl (Nat.le_of_ble_eq_true rfl) (v_Mo_appends d _ _ _) ?_
  rintro _ _ ⟨rfl, rfl⟩
  show ab_Z m_Mo_letters _ _ _ 15 [_, _, _, _, _, _, _] [_] _
  exact ab_rL ok_Mo_letters rfl (⟨rfl, rfl⟩)
theorem keys_e (t1 : Nat → Nat → Int64) : ∀ k, k < 21 → ab_up (ab_up (ab_up (ab_up (ab_up (ab_up (ab_up (ab_up (ab_up (ab_up (ab_up (ab_up (ab_up (ab_up (ab_up (ab_up (ab_up (ab_up (ab_up (ab_up (ab_up t1 88 0 ((keyV.getD 0 []).foldl apF 0)) 88 1 ((keyV.getD 1 []).foldl apF 0)) 88 2 ((keyV.getD 2 []).foldl apF 0)) 88 3 ((keyV.getD 3 []).foldl apF 0)) 88 4 ((keyV.getD 4 []).foldl apF 0)) 88 5 ((keyV.getD 5 []).foldl apF 0)) 88 6 ((keyV.getD 6 []).foldl apF 0)) 88 7 ((keyV.getD 7 []).foldl apF 0)) 88 8 ((keyV.getD 8 []).foldl apF 0)) 88 9 ((keyV.getD 9 []).foldl apF 0)) 88 10 ((keyV.getD 10 []).foldl apF 0)) 88 11 ((keyV.getD 11 []).foldl apF 0)) 88 12 ((keyV.getD 12 []).foldl apF 0)) 88 13 ((keyV.getD 13 []).foldl apF 0)) 88 14 ((keyV.getD 14 []).foldl apF 0)) 88 15 ((keyV.getD 15 []).foldl apF 0)) 88 16 ((keyV.getD 16 []).foldl apF 0)) 88 17 ((keyV.getD 17 []).foldl apF 0)) 88 18 ((keyV.getD 18 []).foldl apF 0)) 88 19 ((keyV.getD 19 []).foldl apF 0)) 88 20 ((keyV.getD 20 []).foldl apF 0) 88 k = (keyV.getD k []).foldl apF 0
  | 0, _ => rfl
  | 1, _ => rfl
  | 2, _ => rfl
  | 3, _ => rfl
  | 4, _ => rfl
  | 5, _ => rfl
  | 6, _ => rfl
  | 7, _ => rfl
  | 8, _ => rfl
  | 9, _ => rfl
  | 10, _ => rfl
  | 11, _ => rfl
  | 12, _ => rfl
  | 13, _ => rfl
  | 14, _ => rfl
  | 15, _ => rfl
  | 16, _ => rfl
  | 17, _ => rfl
  | 18, _ => rfl
  | 19, _ => rfl
  | 20, _ => rfl
  | k + 21, h => absurd h (by omega)
set_option maxRecDepth 16384 in
theorem t_Mo_init (fm : Value) (hro : opR .null opMoR ro = roA fm) (h81 : s 81 = fun _ => 0) : ab_T g_Mo_init (d + 3) (47, 11445) [.ref 81] (shA.take 82, s, t, ro, X) (fun r h => r = none ∧ ∃ s' t', h = HA fm X s' t' ∧ (∀ c, c < 81 → s' c = s c) ∧ (∀ c, c < 81 → t' c = t c) ∧ WdR t' ∧ DM s' 0 tx0 ∧ (∀ k, k < 4 → s' 102 k = s' 103 k) ∧ (s' 82 = fun _ => 0) ∧ (s' 127 = fun _ => 0) ∧ (∀ k, s' 81 k = if k = 17 then -1 else 0) ∧ ∀ j, j < 40 → s' 114 j = rgF tx0 0 j) := by
  generalize hPo : (fun r h => r = none ∧ ∃ s' t', h = HA fm X s' t' ∧ (∀ c, c < 81 → s' c = s c) ∧ (∀ c, c < 81 → t' c = t c) ∧ WdR t' ∧ DM s' 0 tx0 ∧ (∀ k, k < 4 → s' 102 k = s' 103 k) ∧ (s' 82 = fun _ => 0) ∧ (s' 127 = fun _ => 0) ∧ (∀ k, s' 81 k = if k = 17 then -1 else 0) ∧ ∀ j, j < 40 → s' 114 j = rgF tx0 0 j : Option Value → ab_H → Prop) = Po
  refine ab_T_of (M := m_Mo_init) rfl rfl (Nat.le_of_ble_eq_true rfl) ?_
  show ab_Z m_Mo_init _ _ _ 0 [_] [] _
  refine ab_go ok_Mo_init 4 rfl ?_
  show ab_Z m_Mo_init _ _ _ 4 [_] [_, _] _
  refine ab_nwB ok_Mo_init (b' := (46, 9445)) rfl (show (2000 : Int32) = nI 2000 from rfl) (by decide) (n := 82) rfl rfl (by decide) rfl rfl ?_
  show ab_Z m_Mo_init _ _ _ 5 [_] [_, _] (shA.take 83, _, _, _, _)
  refine ab_pr ok_Mo_init rfl rfl (by decide) (by decide) ?_
  show ab_Z m_Mo_init _ _ _ 6 [_] [] (shA.take 83, _, _, _, _)
  refine ab_go ok_Mo_init 2 rfl ?_
  show ab_Z m_Mo_init _ _ _ 8 [_] [_, _] _
  refine ab_nwB ok_Mo_init (b' := (45, 7445)) rfl (show (2000 : Int32) = nI 2000 from rfl) (by decide) (n := 83) rfl rfl (by decide) rfl rfl ?_
  show ab_Z m_Mo_init _ _ _ 9 [_] [_, _] (shA.take 84, _, _, _, _)
  refine ab_pr ok_Mo_init rfl rfl (by decide) (by decide) ?_
  show ab_Z m_Mo_init _ _ _ 10 [_] [] (shA.take 84, _, _, _, _)
  refine ab_go ok_Mo_init 2 rfl ?_
  show ab_Z m_Mo_init _ _ _ 12 [_] [_, _] _
  refine ab_nwI ok_Mo_init (b' := (44, 7042)) rfl (show (403 : Int32) = nI 403 from rfl) (by decide) (n := 84) rfl rfl (by decide) rfl rfl ?_
  show ab_Z m_Mo_init _ _ _ 13 [_] [_, _] (shA.take 85, _, _, _, _)
  refine ab_pr ok_Mo_init rfl rfl (by decide) (by decide) ?_
  show ab_Z m_Mo_init _ _ _ 14 [_] [] (shA.take 85, _, _, _, _)
  refine ab_go ok_Mo_init 2 rfl ?_
  show ab_Z m_Mo_init _ _ _ 16 [_] [_, _] _
  refine ab_nwI ok_Mo_init (b' := (43, 6639)) rfl (show (403 : Int32) = nI 403 from rfl) (by decide) (n := 85) rfl rfl (by decide) rfl rfl ?_
  show ab_Z m_Mo_init _ _ _ 17 [_] [_, _] (shA.take 86, _, _, _, _)
  refine ab_pr ok_Mo_init rfl rfl (by decide) (by decide) ?_
  show ab_Z m_Mo_init _ _ _ 18 [_] [] (shA.take 86, _, _, _, _)
  refine ab_go ok_Mo_init 2 rfl ?_
  show ab_Z m_Mo_init _ _ _ 20 [_] [_, _] _
  refine ab_nwI ok_Mo_init (b' := (42, 6236)) rfl (show (403 : Int32) = nI 403 from rfl) (by decide) (n := 86) rfl rfl (by decide) rfl rfl ?_
  show ab_Z m_Mo_init _ _ _ 21 [_] [_, _] (shA.take 87, _, _, _, _)
  refine ab_pr ok_Mo_init rfl rfl (by decide) (by decide) ?_
  show ab_Z m_Mo_init _ _ _ 22 [_] [] (shA.take 87, _, _, _, _)
  refine ab_go ok_Mo_init 2 rfl ?_
  show ab_Z m_Mo_init _ _ _ 24 [_] [_, _] _
  refine ab_nwL ok_Mo_init (b' := (41, 5833)) rfl (show (403 : Int32) = nI 403 from rfl) (by decide) (n := 87) rfl rfl (by decide) rfl rfl ?_
  show ab_Z m_Mo_init _ _ _ 25 [_] [_, _] (shA.take 88, _, _, _, _)
  refine ab_pr ok_Mo_init rfl rfl (by decide) (by decide) ?_
  show ab_Z m_Mo_init _ _ _ 26 [_] [] (shA.take 88, _, _, _, _)
  refine ab_go ok_Mo_init 2 rfl ?_
  show ab_Z m_Mo_init _ _ _ 28 [_] [_, _] _
  refine ab_nwL ok_Mo_init (b' := (40, 5812)) rfl (show (21 : Int32) = nI 21 from rfl) (by decide) (n := 88) rfl rfl (by decide) rfl rfl ?_
  show ab_Z m_Mo_init _ _ _ 29 [_] [_, _] (shA.take 89, _, _, _, _)
  refine ab_pr ok_Mo_init rfl rfl (by decide) (by decide) ?_
  show ab_Z m_Mo_init _ _ _ 30 [_] [] (shA.take 89, _, _, _, _)
  refine ab_go ok_Mo_init 5 rfl ?_
  show ab_Z m_Mo_init _ _ _ 35 [_] [_, _] _
  refine ab_nwL ok_Mo_init (b' := (39, 5801)) rfl (show (11 : Int32) = nI 11 from rfl) (by decide) (n := 89) rfl rfl (by decide) rfl rfl ?_
  show ab_Z m_Mo_init _ _ _ 36 [_] [_, _] (shA.take 90, _, _, _, _)
  refine ab_pr ok_Mo_init rfl rfl (by decide) (by decide) ?_
  show ab_Z m_Mo_init _ _ _ 37 [_] [] (shA.take 90, _, _, _, _)
  refine ab_go ok_Mo_init 2 rfl ?_
  show ab_Z m_Mo_init _ _ _ 39 [_] [_, _] _
  refine ab_nwI ok_Mo_init (b' := (38, 5790)) rfl (show (11 : Int32) = nI 11 from rfl) (by decide) (n := 90) rfl rfl (by decide) rfl rfl ?_
  show ab_Z m_Mo_init _ _ _ 40 [_] [_, _] (shA.take 91, _, _, _, _)
  refine ab_pr ok_Mo_init rfl rfl (by decide) (by decide) ?_
  show ab_Z m_Mo_init _ _ _ 41 [_] [] (shA.take 91, _, _, _, _)
  refine ab_go ok_Mo_init 2 rfl ?_
  show ab_Z m_Mo_init _ _ _ 43 [_] [_, _] _
  refine ab_nwI ok_Mo_init (b' := (37, 5788)) rfl (show (2 : Int32) = nI 2 from rfl) (by decide) (n := 91) rfl rfl (by decide) rfl rfl ?_
  show ab_Z m_Mo_init _ _ _ 44 [_] [_, _] (shA.take 92, _, _, _, _)
  refine ab_pr ok_Mo_init rfl rfl (by decide) (by decide) ?_
  show ab_Z m_Mo_init _ _ _ 45 [_] [] (shA.take 92, _, _, _, _)
  refine ab_go ok_Mo_init 2 rfl ?_
  show ab_Z m_Mo_init _ _ _ 47 [_] [_, _] _
  refine ab_nwI ok_Mo_init (b' := (36, 5778)) rfl (show (10 : Int32) = nI 10 from rfl) (by decide) (n := 92) rfl rfl (by decide) rfl rfl ?_
  show ab_Z m_Mo_init _ _ _ 48 [_] [_, _] (shA.take 93, _, _, _, _)
  refine ab_pr ok_Mo_init rfl rfl (by decide) (by decide) ?_
  show ab_Z m_Mo_init _ _ _ 49 [_] [] (shA.take 93, _, _, _, _)
  refine ab_go ok_Mo_init 2 rfl ?_
  show ab_Z m_Mo_init _ _ _ 51 [_] [_, _] _
  refine ab_nwI ok_Mo_init (b' := (35, 5748)) rfl (show (30 : Int32) = nI 30 from rfl) (by decide) (n := 93) rfl rfl (by decide) rfl rfl ?_
  show ab_Z m_Mo_init _ _ _ 52 [_] [_, _] (shA.take 94, _, _, _, _)
  refine ab_pr ok_Mo_init rfl rfl (by decide) (by decide) ?_
  show ab_Z m_Mo_init _ _ _ 53 [_] [] (shA.take 94, _, _, _, _)
  refine ab_go ok_Mo_init 2 rfl ?_
  show ab_Z m_Mo_init _ _ _ 55 [_] [_, _] _
  refine ab_nwI ok_Mo_init (b' := (34, 5746)) rfl (show (2 : Int32) = nI 2 from rfl) (by decide) (n := 94) rfl rfl (by decide) rfl rfl ?_
  show ab_Z m_Mo_init _ _ _ 56 [_] [_, _] (shA.take 95, _, _, _, _)
  refine ab_pr ok_Mo_init rfl rfl (by decide) (by decide) ?_
  show ab_Z m_Mo_init _ _ _ 57 [_] [] (shA.take 95, _, _, _, _)
  refine ab_go ok_Mo_init 2 rfl ?_
  show ab_Z m_Mo_init _ _ _ 59 [_] [_, _] _
  refine ab_nwI ok_Mo_init (b' := (33, 5734)) rfl (show (12 : Int32) = nI 12 from rfl) (by decide) (n := 95) rfl rfl (by decide) rfl rfl ?_
  show ab_Z m_Mo_init _ _ _ 60 [_] [_, _] (shA.take 96, _, _, _, _)
  refine ab_pr ok_Mo_init rfl rfl (by decide) (by decide) ?_
  show ab_Z m_Mo_init _ _ _ 61 [_] [] (shA.take 96, _, _, _, _)
  refine ab_go ok_Mo_init 2 rfl ?_
  show ab_Z m_Mo_init _ _ _ 63 [_] [_, _] _
  refine ab_nwI ok_Mo_init (b' := (32, 5698)) rfl (show (36 : Int32) = nI 36 from rfl) (by decide) (n := 96) rfl rfl (by decide) rfl rfl ?_
  show ab_Z m_Mo_init _ _ _ 64 [_] [_, _] (shA.take 97, _, _, _, _)
  refine ab_pr ok_Mo_init rfl rfl (by decide) (by decide) ?_
  show ab_Z m_Mo_init _ _ _ 65 [_] [] (shA.take 97, _, _, _, _)
  refine ab_go ok_Mo_init 2 rfl ?_
  show ab_Z m_Mo_init _ _ _ 67 [_] [_, _] _
  refine ab_nwI ok_Mo_init (b' := (31, 5696)) rfl (show (2 : Int32) = nI 2 from rfl) (by decide) (n := 97) rfl rfl (by decide) rfl rfl ?_
  show ab_Z m_Mo_init _ _ _ 68 [_] [_, _] (shA.take 98, _, _, _, _)
  refine ab_pr ok_Mo_init rfl rfl (by decide) (by decide) ?_
  show ab_Z m_Mo_init _ _ _ 69 [_] [] (shA.take 98, _, _, _, _)
  refine ab_go ok_Mo_init 2 rfl ?_
  show ab_Z m_Mo_init _ _ _ 71 [_] [_, _] _
  refine ab_nwI ok_Mo_init (b' := (30, 5684)) rfl (show (12 : Int32) = nI 12 from rfl) (by decide) (n := 98) rfl rfl (by decide) rfl rfl ?_
  show ab_Z m_Mo_init _ _ _ 72 [_] [_, _] (shA.take 99, _, _, _, _)
  refine ab_pr ok_Mo_init rfl rfl (by decide) (by decide) ?_
  show ab_Z m_Mo_init _ _ _ 73 [_] [] (shA.take 99, _, _, _, _)
  refine ab_go ok_Mo_init 2 rfl ?_
  show ab_Z m_Mo_init _ _ _ 75 [_] [_, _] _
  refine ab_nwI ok_Mo_init (b' := (29, 5672)) rfl (show (12 : Int32) = nI 12 from rfl) (by decide) (n := 99) rfl rfl (by decide) rfl rfl ?_
  show ab_Z m_Mo_init _ _ _ 76 [_] [_, _] (shA.take 100, _, _, _, _)
  refine ab_pr ok_Mo_init rfl rfl (by decide) (by decide) ?_
  show ab_Z m_Mo_init _ _ _ 77 [_] [] (shA.take 100, _, _, _, _)
  refine ab_go ok_Mo_init 2 rfl ?_
  show ab_Z m_Mo_init _ _ _ 79 [_] [_, _] _
  refine ab_nwI ok_Mo_init (b' := (28, 5670)) rfl (show (2 : Int32) = nI 2 from rfl) (by decide) (n := 100) rfl rfl (by decide) rfl rfl ?_
  show ab_Z m_Mo_init _ _ _ 80 [_] [_, _] (shA.take 101, _, _, _, _)
  refine ab_pr ok_Mo_init rfl rfl (by decide) (by decide) ?_
  show ab_Z m_Mo_init _ _ _ 81 [_] [] (shA.take 101, _, _, _, _)
  refine ab_go ok_Mo_init 2 rfl ?_
  show ab_Z m_Mo_init _ _ _ 83 [_] [_, _] _
  refine ab_nwI ok_Mo_init (b' := (27, 5668)) rfl (show (2 : Int32) = nI 2 from rfl) (by decide) (n := 101) rfl rfl (by decide) rfl rfl ?_
  show ab_Z m_Mo_init _ _ _ 84 [_] [_, _] (shA.take 102, _, _, _, _)
  refine ab_pr ok_Mo_init rfl rfl (by decide) (by decide) ?_
  show ab_Z m_Mo_init _ _ _ 85 [_] [] (shA.take 102, _, _, _, _)
  refine ab_go ok_Mo_init 2 rfl ?_
  show ab_Z m_Mo_init _ _ _ 87 [_] [_, _] _
  refine ab_nwI ok_Mo_init (b' := (26, 5660)) rfl (show (8 : Int32) = nI 8 from rfl) (by decide) (n := 102) rfl rfl (by decide) rfl rfl ?_
  show ab_Z m_Mo_init _ _ _ 88 [_] [_, _] (shA.take 103, _, _, _, _)
  refine ab_pr ok_Mo_init rfl rfl (by decide) (by decide) ?_
  show ab_Z m_Mo_init _ _ _ 89 [_] [] (shA.take 103, _, _, _, _)
  refine ab_go ok_Mo_init 2 rfl ?_
  show ab_Z m_Mo_init _ _ _ 91 [_] [_, _] _
  refine ab_nwI ok_Mo_init (b' := (25, 5652)) rfl (show (8 : Int32) = nI 8 from rfl) (by decide) (n := 103) rfl rfl (by decide) rfl rfl ?_
  show ab_Z m_Mo_init _ _ _ 92 [_] [_, _] (shA.take 104, _, _, _, _)
  refine ab_pr ok_Mo_init rfl rfl (by decide) (by decide) ?_
  show ab_Z m_Mo_init _ _ _ 93 [_] [] (shA.take 104, _, _, _, _)
  refine ab_go ok_Mo_init 2 rfl ?_
  show ab_Z m_Mo_init _ _ _ 95 [_] [_, _] _
  refine ab_nwZ ok_Mo_init (b' := (24, 5392)) rfl (show (260 : Int32) = nI 260 from rfl) (by decide) (n := 104) rfl rfl (by decide) rfl rfl ?_
  show ab_Z m_Mo_init _ _ _ 96 [_] [_, _] (shA.take 105, _, _, _, _)
  refine ab_pr ok_Mo_init rfl rfl (by decide) (by decide) ?_
  show ab_Z m_Mo_init _ _ _ 97 [_] [] (shA.take 105, _, _, _, _)
  refine ab_go ok_Mo_init 2 rfl ?_
  show ab_Z m_Mo_init _ _ _ 99 [_] [_, _] _
  refine ab_nwI ok_Mo_init (b' := (23, 5132)) rfl (show (260 : Int32) = nI 260 from rfl) (by decide) (n := 105) rfl rfl (by decide) rfl rfl ?_
  show ab_Z m_Mo_init _ _ _ 100 [_] [_, _] (shA.take 106, _, _, _, _)
  refine ab_pr ok_Mo_init rfl rfl (by decide) (by decide) ?_
  show ab_Z m_Mo_init _ _ _ 101 [_] [] (shA.take 106, _, _, _, _)
  refine ab_go ok_Mo_init 2 rfl ?_
  show ab_Z m_Mo_init _ _ _ 103 [_] [_, _] _
  refine ab_nwI ok_Mo_init (b' := (22, 4872)) rfl (show (260 : Int32) = nI 260 from rfl) (by decide) (n := 106) rfl rfl (by decide) rfl rfl ?_
  show ab_Z m_Mo_init _ _ _ 104 [_] [_, _] (shA.take 107, _, _, _, _)
  refine ab_pr ok_Mo_init rfl rfl (by decide) (by decide) ?_
  show ab_Z m_Mo_init _ _ _ 105 [_] [] (shA.take 107, _, _, _, _)
  refine ab_go ok_Mo_init 2 rfl ?_
  show ab_Z m_Mo_init _ _ _ 107 [_] [_, _] _
  refine ab_nwI ok_Mo_init (b' := (21, 4612)) rfl (show (260 : Int32) = nI 260 from rfl) (by decide) (n := 107) rfl rfl (by decide) rfl rfl ?_
  show ab_Z m_Mo_init _ _ _ 108 [_] [_, _] (shA.take 108, _, _, _, _)
  refine ab_pr ok_Mo_init rfl rfl (by decide) (by decide) ?_
  show ab_Z m_Mo_init _ _ _ 109 [_] [] (shA.take 108, _, _, _, _)
  refine ab_go ok_Mo_init 2 rfl ?_
  show ab_Z m_Mo_init _ _ _ 111 [_] [_, _] _
  refine ab_nwI ok_Mo_init (b' := (20, 4352)) rfl (show (260 : Int32) = nI 260 from rfl) (by decide) (n := 108) rfl rfl (by decide) rfl rfl ?_
  show ab_Z m_Mo_init _ _ _ 112 [_] [_, _] (shA.take 109, _, _, _, _)
  refine ab_pr ok_Mo_init rfl rfl (by decide) (by decide) ?_
  show ab_Z m_Mo_init _ _ _ 113 [_] [] (shA.take 109, _, _, _, _)
  refine ab_go ok_Mo_init 2 rfl ?_
  show ab_Z m_Mo_init _ _ _ 115 [_] [_, _] _
  refine ab_nwI ok_Mo_init (b' := (19, 3512)) rfl (show (840 : Int32) = nI 840 from rfl) (by decide) (n := 109) rfl rfl (by decide) rfl rfl ?_
  show ab_Z m_Mo_init _ _ _ 116 [_] [_, _] (shA.take 110, _, _, _, _)
  refine ab_pr ok_Mo_init rfl rfl (by decide) (by decide) ?_
  show ab_Z m_Mo_init _ _ _ 117 [_] [] (shA.take 110, _, _, _, _)
  refine ab_go ok_Mo_init 2 rfl ?_
  show ab_Z m_Mo_init _ _ _ 119 [_] [_, _] _
  refine ab_nwI ok_Mo_init (b' := (18, 2672)) rfl (show (840 : Int32) = nI 840 from rfl) (by decide) (n := 110) rfl rfl (by decide) rfl rfl ?_
  show ab_Z m_Mo_init _ _ _ 120 [_] [_, _] (shA.take 111, _, _, _, _)
  refine ab_pr ok_Mo_init rfl rfl (by decide) (by decide) ?_
  show ab_Z m_Mo_init _ _ _ 121 [_] [] (shA.take 111, _, _, _, _)
  refine ab_go ok_Mo_init 2 rfl ?_
  show ab_Z m_Mo_init _ _ _ 123 [_] [_, _] _
  refine ab_nwI ok_Mo_init (b' := (17, 2608)) rfl (show (64 : Int32) = nI 64 from rfl) (by decide) (n := 111) rfl rfl (by decide) rfl rfl ?_
  show ab_Z m_Mo_init _ _ _ 124 [_] [_, _] (shA.take 112, _, _, _, _)
  refine ab_pr ok_Mo_init rfl rfl (by decide) (by decide) ?_
  show ab_Z m_Mo_init _ _ _ 125 [_] [] (shA.take 112, _, _, _, _)
  refine ab_go ok_Mo_init 2 rfl ?_
  show ab_Z m_Mo_init _ _ _ 127 [_] [_, _] _
  refine ab_nwI ok_Mo_init (b' := (16, 2599)) rfl (show (9 : Int32) = nI 9 from rfl) (by decide) (n := 112) rfl rfl (by decide) rfl rfl ?_
  show ab_Z m_Mo_init _ _ _ 128 [_] [_, _] (shA.take 113, _, _, _, _)
  refine ab_pr ok_Mo_init rfl rfl (by decide) (by decide) ?_
  show ab_Z m_Mo_init _ _ _ 129 [_] [] (shA.take 113, _, _, _, _)
  refine ab_go ok_Mo_init 2 rfl ?_
  show ab_Z m_Mo_init _ _ _ 131 [_] [_, _] _
  refine ab_nwI ok_Mo_init (b' := (15, 2199)) rfl (show (400 : Int32) = nI 400 from rfl) (by decide) (n := 113) rfl rfl (by decide) rfl rfl ?_
  show ab_Z m_Mo_init _ _ _ 132 [_] [_, _] (shA.take 114, _, _, _, _)
  refine ab_pr ok_Mo_init rfl rfl (by decide) (by decide) ?_
  show ab_Z m_Mo_init _ _ _ 133 [_] [] (shA.take 114, _, _, _, _)
  refine ab_go ok_Mo_init 2 rfl ?_
  show ab_Z m_Mo_init _ _ _ 135 [_] [_, _] _
  refine ab_nwI ok_Mo_init (b' := (14, 2159)) rfl (show (40 : Int32) = nI 40 from rfl) (by decide) (n := 114) rfl rfl (by decide) rfl rfl ?_
  show ab_Z m_Mo_init _ _ _ 136 [_] [_, _] (shA.take 115, _, _, _, _)
  refine ab_pr ok_Mo_init rfl rfl (by decide) (by decide) ?_
  show ab_Z m_Mo_init _ _ _ 137 [_] [] (shA.take 115, _, _, _, _)
  refine ab_go ok_Mo_init 2 rfl ?_
  show ab_Z m_Mo_init _ _ _ 139 [_] [_, _] _
  refine ab_nwI ok_Mo_init (b' := (13, 2119)) rfl (show (40 : Int32) = nI 40 from rfl) (by decide) (n := 115) rfl rfl (by decide) rfl rfl ?_
  show ab_Z m_Mo_init _ _ _ 140 [_] [_, _] (shA.take 116, _, _, _, _)
  refine ab_pr ok_Mo_init rfl rfl (by decide) (by decide) ?_
  show ab_Z m_Mo_init _ _ _ 141 [_] [] (shA.take 116, _, _, _, _)
  refine ab_go ok_Mo_init 2 rfl ?_
  show ab_Z m_Mo_init _ _ _ 143 [_] [_, _] _
  refine ab_nwI ok_Mo_init (b' := (12, 2116)) rfl (show (3 : Int32) = nI 3 from rfl) (by decide) (n := 116) rfl rfl (by decide) rfl rfl ?_
  show ab_Z m_Mo_init _ _ _ 144 [_] [_, _] (shA.take 117, _, _, _, _)
  refine ab_pr ok_Mo_init rfl rfl (by decide) (by decide) ?_
  show ab_Z m_Mo_init _ _ _ 145 [_] [] (shA.take 117, _, _, _, _)
  refine ab_go ok_Mo_init 2 rfl ?_
  show ab_Z m_Mo_init _ _ _ 147 [_] [_, _] _
  refine ab_nwI ok_Mo_init (b' := (11, 2101)) rfl (show (15 : Int32) = nI 15 from rfl) (by decide) (n := 117) rfl rfl (by decide) rfl rfl ?_
  show ab_Z m_Mo_init _ _ _ 148 [_] [_, _] (shA.take 118, _, _, _, _)
  refine ab_pr ok_Mo_init rfl rfl (by decide) (by decide) ?_
  show ab_Z m_Mo_init _ _ _ 149 [_] [] (shA.take 118, _, _, _, _)
  refine ab_go ok_Mo_init 2 rfl ?_
  show ab_Z m_Mo_init _ _ _ 151 [_] [_, _] _
  refine ab_nwI ok_Mo_init (b' := (10, 2083)) rfl (show (18 : Int32) = nI 18 from rfl) (by decide) (n := 118) rfl rfl (by decide) rfl rfl ?_
  show ab_Z m_Mo_init _ _ _ 152 [_] [_, _] (shA.take 119, _, _, _, _)
  refine ab_pr ok_Mo_init rfl rfl (by decide) (by decide) ?_
  show ab_Z m_Mo_init _ _ _ 153 [_] [] (shA.take 119, _, _, _, _)
  refine ab_go ok_Mo_init 2 rfl ?_
  show ab_Z m_Mo_init _ _ _ 155 [_] [_, _] _
  refine ab_nwI ok_Mo_init (b' := (9, 483)) rfl (show (1600 : Int32) = nI 1600 from rfl) (by decide) (n := 119) rfl rfl (by decide) rfl rfl ?_
  show ab_Z m_Mo_init _ _ _ 156 [_] [_, _] (shA.take 120, _, _, _, _)
  refine ab_pr ok_Mo_init rfl rfl (by decide) (by decide) ?_
  show ab_Z m_Mo_init _ _ _ 157 [_] [] (shA.take 120, _, _, _, _)
  refine ab_go ok_Mo_init 2 rfl ?_
  show ab_Z m_Mo_init _ _ _ 159 [_] [_, _] _
  refine ab_nwI ok_Mo_init (b' := (8, 477)) rfl (show (6 : Int32) = nI 6 from rfl) (by decide) (n := 120) rfl rfl (by decide) rfl rfl ?_
  show ab_Z m_Mo_init _ _ _ 160 [_] [_, _] (shA.take 121, _, _, _, _)
  refine ab_pr ok_Mo_init rfl rfl (by decide) (by decide) ?_
  show ab_Z m_Mo_init _ _ _ 161 [_] [] (shA.take 121, _, _, _, _)
  refine ab_go ok_Mo_init 2 rfl ?_
  show ab_Z m_Mo_init _ _ _ 163 [_] [_, _] _
  refine ab_nwI ok_Mo_init (b' := (7, 471)) rfl (show (6 : Int32) = nI 6 from rfl) (by decide) (n := 121) rfl rfl (by decide) rfl rfl ?_
  show ab_Z m_Mo_init _ _ _ 164 [_] [_, _] (shA.take 122, _, _, _, _)
  refine ab_pr ok_Mo_init rfl rfl (by decide) (by decide) ?_
  show ab_Z m_Mo_init _ _ _ 165 [_] [] (shA.take 122, _, _, _, _)
  refine ab_go ok_Mo_init 2 rfl ?_
  show ab_Z m_Mo_init _ _ _ 167 [_] [_, _] _
  refine ab_nwI ok_Mo_init (b' := (6, 247)) rfl (show (224 : Int32) = nI 224 from rfl) (by decide) (n := 122) rfl rfl (by decide) rfl rfl ?_
  show ab_Z m_Mo_init _ _ _ 168 [_] [_, _] (shA.take 123, _, _, _, _)
  refine ab_pr ok_Mo_init rfl rfl (by decide) (by decide) ?_
  show ab_Z m_Mo_init _ _ _ 169 [_] [] (shA.take 123, _, _, _, _)
  refine ab_go ok_Mo_init 2 rfl ?_
  show ab_Z m_Mo_init _ _ _ 171 [_] [_, _] _
  refine ab_nwI ok_Mo_init (b' := (5, 183)) rfl (show (64 : Int32) = nI 64 from rfl) (by decide) (n := 123) rfl rfl (by decide) rfl rfl ?_
  show ab_Z m_Mo_init _ _ _ 172 [_] [_, _] (shA.take 124, _, _, _, _)
  refine ab_pr ok_Mo_init rfl rfl (by decide) (by decide) ?_
  show ab_Z m_Mo_init _ _ _ 173 [_] [] (shA.take 124, _, _, _, _)
  refine ab_go ok_Mo_init 2 rfl ?_
  show ab_Z m_Mo_init _ _ _ 175 [_] [_, _] _
  refine ab_nwI ok_Mo_init (b' := (4, 163)) rfl (show (20 : Int32) = nI 20 from rfl) (by decide) (n := 124) rfl rfl (by decide) rfl rfl ?_
  show ab_Z m_Mo_init _ _ _ 176 [_] [_, _] (shA.take 125, _, _, _, _)
  refine ab_pr ok_Mo_init rfl rfl (by decide) (by decide) ?_
  show ab_Z m_Mo_init _ _ _ 177 [_] [] (shA.take 125, _, _, _, _)
  refine ab_go ok_Mo_init 2 rfl ?_
  show ab_Z m_Mo_init _ _ _ 179 [_] [_, _] _
  refine ab_nwI ok_Mo_init (b' := (3, 143)) rfl (show (20 : Int32) = nI 20 from rfl) (by decide) (n := 125) rfl rfl (by decide) rfl rfl ?_
  show ab_Z m_Mo_init _ _ _ 180 [_] [_, _] (shA.take 126, _, _, _, _)
  refine ab_pr ok_Mo_init rfl rfl (by decide) (by decide) ?_
  show ab_Z m_Mo_init _ _ _ 181 [_] [] (shA.take 126, _, _, _, _)
  refine ab_go ok_Mo_init 2 rfl ?_
  show ab_Z m_Mo_init _ _ _ 183 [_] [_, _] _
  refine ab_nwZ ok_Mo_init (b' := (2, 123)) rfl (show (20 : Int32) = nI 20 from rfl) (by decide) (n := 126) rfl rfl (by decide) rfl rfl ?_
  show ab_Z m_Mo_init _ _ _ 184 [_] [_, _] (shA.take 127, _, _, _, _)
  refine ab_pr ok_Mo_init rfl rfl (by decide) (by decide) ?_
  show ab_Z m_Mo_init _ _ _ 185 [_] [] (shA.take 127, _, _, _, _)
  refine ab_go ok_Mo_init 2 rfl ?_
  show ab_Z m_Mo_init _ _ _ 187 [_] [_, _] _
  refine ab_nwZ ok_Mo_init (b' := (1, 120)) rfl (show (3 : Int32) = nI 3 from rfl) (by decide) (n := 127) rfl rfl (by decide) rfl rfl ?_
  show ab_Z m_Mo_init _ _ _ 188 [_] [_, _] (shA.take 128, _, _, _, _)
  refine ab_pr ok_Mo_init rfl rfl (by decide) (by decide) ?_
  show ab_Z m_Mo_init _ _ _ 189 [_] [] (shA.take 128, _, _, _, _)
  refine ab_go ok_Mo_init 2 rfl ?_
  show ab_Z m_Mo_init _ _ _ 191 [_] [_, _] _
  refine ab_nwI ok_Mo_init (b' := (0, 0)) rfl (show (120 : Int32) = nI 120 from rfl) (by decide) (n := 128) rfl rfl (by decide) rfl rfl ?_
  show ab_Z m_Mo_init _ _ _ 192 [_] [_, _] (shA.take 129, _, _, _, _)
  refine ab_pr ok_Mo_init rfl rfl (by decide) (by decide) ?_
  show ab_Z m_Mo_init _ _ _ 193 [_] [] (shA.take 129, _, _, _, _)
  show ab_Z m_Mo_init _ _ _ 193 [_] [] (shA, opR 0 opMoS s, opR 0 opMoT t, opR .null opMoR ro, X)
  rw [hro]
  have z0 : ∀ c, c < 81 → opR 0 opMoS s c = s c := fun c hc => opR_lo 0 hc _ _ rfl
  have z1 : ∀ c, c < 81 → opR 0 opMoT t c = t c := fun c hc => opR_lo 0 hc _ _ rfl
  have z81 : ∀ k, opR 0 opMoS s 81 k = if k = 17 then -1 else 0 := fun k => by
    show (if k = 17 then (-1 : Int32) else s 81 k) = _
    rw [h81]
  have z82 : opR 0 opMoS s 82 = fun _ => 0 := rfl
  have z127 : opR 0 opMoS s 127 = fun _ => 0 := rfl
  generalize opR 0 opMoS s = s0 at *
  generalize opR 0 opMoT t = t0 at *
  refine ab_go ok_Mo_init 2 rfl ?_
  show ab_Z m_Mo_init _ _ _ 195 [_] [_, _] _
  refine ab_cl ok_Mo_init rfl [_, _] [] rfl ⟨_, _, rfl, rfl, Or.inl ⟨_, _, rfl, rfl⟩⟩ (Nat.le_of_ble_eq_true rfl) (t_Mo_plain _ fm X s0 t0 (sd := 0) (by decide)) ?_
  rintro _ _ ⟨rfl, s1, rfl, k1, o1, a1, l1⟩
  show ab_Z m_Mo_init _ _ _ 196 [_] [] _
  refine ab_go ok_Mo_init 2 rfl ?_
  show ab_Z m_Mo_init _ _ _ 198 [_] [_, _] _
  refine ab_cl ok_Mo_init rfl [_, _] [] rfl ⟨_, _, rfl, rfl, Or.inl ⟨_, _, rfl, rfl⟩⟩ (Nat.le_of_ble_eq_true rfl) (t_Mo_plain _ fm X s1 t0 (sd := 1) (by decide)) ?_
  rintro _ _ ⟨rfl, s2, rfl, k2, o2, a2, l2⟩
  show ab_Z m_Mo_init _ _ _ 199 [_] [] _
  refine ab_go ok_Mo_init 10 rfl ?_
  show ab_Z m_Mo_init _ _ _ 209 [_] [_, _, _, _, _, _, _, _, _] _
  refine ab_cl ok_Mo_init rfl [_, _, _, _, _, _, _] [_, _] rfl rfl (Nat.le_of_ble_eq_true rfl) (v_Mo_letters _ _ _ _ _ _ _ _ _) ?_
  rintro _ _ ⟨rfl, rfl⟩
  show ab_Z m_Mo_init _ _ _ 210 [_] [_, _, _] _
  refine ab_ls ok_Mo_init rfl rfl (k := 0) (by first | rfl | (simp only [LL1, LL2, LL3, LL4, LL5, LL6, LL7, LL8, LL10, LL15, LL18, LL20, LL21, LL22, LL23, LL24, LL32, LL39, LL40, LL130, LL420, pk_mul, nI_add]; done) | (simp only [LL1, LL2, LL3, LL4, LL5, LL6, LL7, LL8, LL10, LL15, LL18, LL20, LL21, LL22, LL23, LL24, LL32, LL39, LL40, LL130, LL420, pk_mul, nI_add]; congr 1; omega)) (by omega) (Nat.le_of_ble_eq_true rfl) ?_
  show ab_Z m_Mo_init _ _ _ 211 [_] [] _
  refine ab_go ok_Mo_init 10 rfl ?_
  show ab_Z m_Mo_init _ _ _ 221 [_] [_, _, _, _, _, _, _, _, _] _
  refine ab_cl ok_Mo_init rfl [_, _, _, _, _, _, _] [_, _] rfl rfl (Nat.le_of_ble_eq_true rfl) (v_Mo_letters _ _ _ _ _ _ _ _ _) ?_
  rintro _ _ ⟨rfl, rfl⟩
  show ab_Z m_Mo_init _ _ _ 222 [_] [_, _, _] _
  refine ab_ls ok_Mo_init rfl rfl (k := 1) (by first | rfl | (simp only [LL1, LL2, LL3, LL4, LL5, LL6, LL7, LL8, LL10, LL15, LL18, LL20, LL21, LL22, LL23, LL24, LL32, LL39, LL40, LL130, LL420, pk_mul, nI_add]; done) | (simp only [LL1, LL2, LL3, LL4, LL5, LL6, LL7, LL8, LL10, LL15, LL18, LL20, LL21, LL22, LL23, LL24, LL32, LL39, LL40, LL130, LL420, pk_mul, nI_add]; congr 1; omega)) (by omega) (Nat.le_of_ble_eq_true rfl) ?_
  show ab_Z m_Mo_init _ _ _ 223 [_] [] _
  refine ab_go ok_Mo_init 10 rfl ?_
  show ab_Z m_Mo_init _ _ _ 233 [_] [_, _, _, _, _, _, _, _, _] _
  refine ab_cl ok_Mo_init rfl [_, _, _, _, _, _, _] [_, _] rfl rfl (Nat.le_of_ble_eq_true rfl) (v_Mo_letters _ _ _ _ _ _ _ _ _) ?_
  rintro _ _ ⟨rfl, rfl⟩
  show ab_Z m_Mo_init _ _ _ 234 [_] [_, _, _] _
  refine ab_ls ok_Mo_init rfl rfl (k := 2) (by first | rfl | (simp only [LL1, LL2, LL3, LL4, LL5, LL6, LL7, LL8, LL10, LL15, LL18, LL20, LL21, LL22, LL23, LL24, LL32, LL39, LL40, LL130, LL420, pk_mul, nI_add]; done) | (simp only [LL1, LL2, LL3, LL4, LL5, LL6, LL7, LL8, LL10, LL15, LL18, LL20, LL21, LL22, LL23, LL24, LL32, LL39, LL40, LL130, LL420, pk_mul, nI_add]; congr 1; omega)) (by omega) (Nat.le_of_ble_eq_true rfl) ?_
  show ab_Z m_Mo_init _ _ _ 235 [_] [] _
  refine ab_go ok_Mo_init 10 rfl ?_
  show ab_Z m_Mo_init _ _ _ 245 [_] [_, _, _, _, _, _, _, _, _] _
  refine ab_cl ok_Mo_init rfl [_, _, _, _, _, _, _] [_, _] rfl rfl (Nat.le_of_ble_eq_true rfl) (v_Mo_letters _ _ _ _ _ _ _ _ _) ?_
  rintro _ _ ⟨rfl, rfl⟩
  show ab_Z m_Mo_init _ _ _ 246 [_] [_, _, _] _
  refine ab_ls ok_Mo_init rfl rfl (k := 3) (by first | rfl | (simp only [LL1, LL2, LL3, LL4, LL5, LL6, LL7, LL8, LL10, LL15, LL18, LL20, LL21, LL22, LL23, LL24, LL32, LL39, LL40, LL130, LL420, pk_mul, nI_add]; done) | (simp only [LL1, LL2, LL3, LL4, LL5, LL6, LL7, LL8, LL10, LL15, LL18, LL20, LL21, LL22, LL23, LL24, LL32, LL39, LL40, LL130, LL420, pk_mul, nI_add]; congr 1; omega)) (by omega) (Nat.le_of_ble_eq_true rfl) ?_
  show ab_Z m_Mo_init _ _ _ 247 [_] [] _
  refine ab_go ok_Mo_init 10 rfl ?_
  show ab_Z m_Mo_init _ _ _ 257 [_] [_, _, _, _, _, _, _, _, _] _
  refine ab_cl ok_Mo_init rfl [_, _, _, _, _, _, _] [_, _] rfl rfl (Nat.le_of_ble_eq_true rfl) (v_Mo_letters _ _ _ _ _ _ _ _ _) ?_
  rintro _ _ ⟨rfl, rfl⟩
  show ab_Z m_Mo_init _ _ _ 258 [_] [_, _, _] _
  refine ab_ls ok_Mo_init rfl rfl (k := 4) (by first | rfl | (simp only [LL1, LL2, LL3, LL4, LL5, LL6, LL7, LL8, LL10, LL15, LL18, LL20, LL21, LL22, LL23, LL24, LL32, LL39, LL40, LL130, LL420, pk_mul, nI_add]; done) | (simp only [LL1, LL2, LL3, LL4, LL5, LL6, LL7, LL8, LL10, LL15, LL18, LL20, LL21, LL22, LL23, LL24, LL32, LL39, LL40, LL130, LL420, pk_mul, nI_add]; congr 1; omega)) (by omega) (Nat.le_of_ble_eq_true rfl) ?_
  show ab_Z m_Mo_init _ _ _ 259 [_] [] _
  refine ab_go ok_Mo_init 10 rfl ?_
  show ab_Z m_Mo_init _ _ _ 269 [_] [_, _, _, _, _, _, _, _, _] _
  refine ab_cl ok_Mo_init rfl [_, _, _, _, _, _, _] [_, _] rfl rfl (Nat.le_of_ble_eq_true rfl) (v_Mo_letters _ _ _ _ _ _ _ _ _) ?_
  rintro _ _ ⟨rfl, rfl⟩
  show ab_Z m_Mo_init _ _ _ 270 [_] [_, _, _] _
  refine ab_ls ok_Mo_init rfl rfl (k := 5) (by first | rfl | (simp only [LL1, LL2, LL3, LL4, LL5, LL6, LL7, LL8, LL10, LL15, LL18, LL20, LL21, LL22, LL23, LL24, LL32, LL39, LL40, LL130, LL420, pk_mul, nI_add]; done) | (simp only [LL1, LL2, LL3, LL4, LL5, LL6, LL7, LL8, LL10, LL15, LL18, LL20, LL21, LL22, LL23, LL24, LL32, LL39, LL40, LL130, LL420, pk_mul, nI_add]; congr 1; omega)) (by omega) (Nat.le_of_ble_eq_true rfl) ?_
  show ab_Z m_Mo_init _ _ _ 271 [_] [] _
  refine ab_go ok_Mo_init 10 rfl ?_
  show ab_Z m_Mo_init _ _ _ 281 [_] [_, _, _, _, _, _, _, _, _] _
  refine ab_cl ok_Mo_init rfl [_, _, _, _, _, _, _] [_, _] rfl rfl (Nat.le_of_ble_eq_true rfl) (v_Mo_letters _ _ _ _ _ _ _ _ _) ?_
  rintro _ _ ⟨rfl, rfl⟩
  show ab_Z m_Mo_init _ _ _ 282 [_] [_, _, _] _
  refine ab_ls ok_Mo_init rfl rfl (k := 6) (by first | rfl | (simp only [LL1, LL2, LL3, LL4, LL5, LL6, LL7, LL8, LL10, LL15, LL18, LL20, LL21, LL22, LL23, LL24, LL32, LL39, LL40, LL130, LL420, pk_mul, nI_add]; done) | (simp only [LL1, LL2, LL3, LL4, LL5, LL6, LL7, LL8, LL10, LL15, LL18, LL20, LL21, LL22, LL23, LL24, LL32, LL39, LL40, LL130, LL420, pk_mul, nI_add]; congr 1; omega)) (by omega) (Nat.le_of_ble_eq_true rfl) ?_
  show ab_Z m_Mo_init _ _ _ 283 [_] [] _
  refine ab_go ok_Mo_init 10 rfl ?_
  show ab_Z m_Mo_init _ _ _ 293 [_] [_, _, _, _, _, _, _, _, _] _
  refine ab_cl ok_Mo_init rfl [_, _, _, _, _, _, _] [_, _] rfl rfl (Nat.le_of_ble_eq_true rfl) (v_Mo_letters _ _ _ _ _ _ _ _ _) ?_
  rintro _ _ ⟨rfl, rfl⟩
  show ab_Z m_Mo_init _ _ _ 294 [_] [_, _, _] _
  refine ab_ls ok_Mo_init rfl rfl (k := 7) (by first | rfl | (simp only [LL1, LL2, LL3, LL4, LL5, LL6, LL7, LL8, LL10, LL15, LL18, LL20, LL21, LL22, LL23, LL24, LL32, LL39, LL40, LL130, LL420, pk_mul, nI_add]; done) | (simp only [LL1, LL2, LL3, LL4, LL5, LL6, LL7, LL8, LL10, LL15, LL18, LL20, LL21, LL22, LL23, LL24, LL32, LL39, LL40, LL130, LL420, pk_mul, nI_add]; congr 1; omega)) (by omega) (Nat.le_of_ble_eq_true rfl) ?_
  show ab_Z m_Mo_init _ _ _ 295 [_] [] _
  refine ab_go ok_Mo_init 10 rfl ?_
  show ab_Z m_Mo_init _ _ _ 305 [_] [_, _, _, _, _, _, _, _, _] _
  refine ab_cl ok_Mo_init rfl [_, _, _, _, _, _, _] [_, _] rfl rfl (Nat.le_of_ble_eq_true rfl) (v_Mo_letters _ _ _ _ _ _ _ _ _) ?_
  rintro _ _ ⟨rfl, rfl⟩
  show ab_Z m_Mo_init _ _ _ 306 [_] [_, _, _] _
  refine ab_ls ok_Mo_init rfl rfl (k := 8) (by first | rfl | (simp only [LL1, LL2, LL3, LL4, LL5, LL6, LL7, LL8, LL10, LL15, LL18, LL20, LL21, LL22, LL23, LL24, LL32, LL39, LL40, LL130, LL420, pk_mul, nI_add]; done) | (simp only [LL1, LL2, LL3, LL4, LL5, LL6, LL7, LL8, LL10, LL15, LL18, LL20, LL21, LL22, LL23, LL24, LL32, LL39, LL40, LL130, LL420, pk_mul, nI_add]; congr 1; omega)) (by omega) (Nat.le_of_ble_eq_true rfl) ?_
  show ab_Z m_Mo_init _ _ _ 307 [_] [] _
  refine ab_go ok_Mo_init 10 rfl ?_
  show ab_Z m_Mo_init _ _ _ 317 [_] [_, _, _, _, _, _, _, _, _] _
  refine ab_cl ok_Mo_init rfl [_, _, _, _, _, _, _] [_, _] rfl rfl (Nat.le_of_ble_eq_true rfl) (v_Mo_letters _ _ _ _ _ _ _ _ _) ?_
  rintro _ _ ⟨rfl, rfl⟩
  show ab_Z m_Mo_init _ _ _ 318 [_] [_, _, _] _
  refine ab_ls ok_Mo_init rfl rfl (k := 9) (by first | rfl | (simp only [LL1, LL2, LL3, LL4, LL5, LL6, LL7, LL8, LL10, LL15, LL18, LL20, LL21, LL22, LL23, LL24, LL32, LL39, LL40, LL130, LL420, pk_mul, nI_add]; done) | (simp only [LL1, LL2, LL3, LL4, LL5, LL6, LL7, LL8, LL10, LL15, LL18, LL20, LL21, LL22, LL23, LL24, LL32, LL39, LL40, LL130, LL420, pk_mul, nI_add]; congr 1; omega)) (by omega) (Nat.le_of_ble_eq_true rfl) ?_
  show ab_Z m_Mo_init _ _ _ 319 [_] [] _
  refine ab_go ok_Mo_init 10 rfl ?_
  show ab_Z m_Mo_init _ _ _ 329 [_] [_, _, _, _, _, _, _, _, _] _
  refine ab_cl ok_Mo_init rfl [_, _, _, _, _, _, _] [_, _] rfl rfl (Nat.le_of_ble_eq_true rfl) (v_Mo_letters _ _ _ _ _ _ _ _ _) ?_
  rintro _ _ ⟨rfl, rfl⟩
  show ab_Z m_Mo_init _ _ _ 330 [_] [_, _, _] _
  refine ab_ls ok_Mo_init rfl rfl (k := 10) (by first | rfl | (simp only [LL1, LL2, LL3, LL4, LL5, LL6, LL7, LL8, LL10, LL15, LL18, LL20, LL21, LL22, LL23, LL24, LL32, LL39, LL40, LL130, LL420, pk_mul, nI_add]; done) | (simp only [LL1, LL2, LL3, LL4, LL5, LL6, LL7, LL8, LL10, LL15, LL18, LL20, LL21, LL22, LL23, LL24, LL32, LL39, LL40, LL130, LL420, pk_mul, nI_add]; congr 1; omega)) (by omega) (Nat.le_of_ble_eq_true rfl) ?_
  show ab_Z m_Mo_init _ _ _ 331 [_] [] _
  refine ab_go ok_Mo_init 10 rfl ?_
  show ab_Z m_Mo_init _ _ _ 341 [_] [_, _, _, _, _, _, _, _, _] _
  refine ab_cl ok_Mo_init rfl [_, _, _, _, _, _, _] [_, _] rfl rfl (Nat.le_of_ble_eq_true rfl) (v_Mo_letters _ _ _ _ _ _ _ _ _) ?_
  rintro _ _ ⟨rfl, rfl⟩
  show ab_Z m_Mo_init _ _ _ 342 [_] [_, _, _] _
  refine ab_ls ok_Mo_init rfl rfl (k := 11) (by first | rfl | (simp only [LL1, LL2, LL3, LL4, LL5, LL6, LL7, LL8, LL10, LL15, LL18, LL20, LL21, LL22, LL23, LL24, LL32, LL39, LL40, LL130, LL420, pk_mul, nI_add]; done) | (simp only [LL1, LL2, LL3, LL4, LL5, LL6, LL7, LL8, LL10, LL15, LL18, LL20, LL21, LL22, LL23, LL24, LL32, LL39, LL40, LL130, LL420, pk_mul, nI_add]; congr 1; omega)) (by omega) (Nat.le_of_ble_eq_true rfl) ?_
  show ab_Z m_Mo_init _ _ _ 343 [_] [] _
  refine ab_go ok_Mo_init 10 rfl ?_
  show ab_Z m_Mo_init _ _ _ 353 [_] [_, _, _, _, _, _, _, _, _] _
  refine ab_cl ok_Mo_init rfl [_, _, _, _, _, _, _] [_, _] rfl rfl (Nat.le_of_ble_eq_true rfl) (v_Mo_letters _ _ _ _ _ _ _ _ _) ?_
  rintro _ _ ⟨rfl, rfl⟩
  show ab_Z m_Mo_init _ _ _ 354 [_] [_, _, _] _
  refine ab_ls ok_Mo_init rfl rfl (k := 12) (by first | rfl | (simp only [LL1, LL2, LL3, LL4, LL5, LL6, LL7, LL8, LL10, LL15, LL18, LL20, LL21, LL22, LL23, LL24, LL32, LL39, LL40, LL130, LL420, pk_mul, nI_add]; done) | (simp only [LL1, LL2, LL3, LL4, LL5, LL6, LL7, LL8, LL10, LL15, LL18, LL20, LL21, LL22, LL23, LL24, LL32, LL39, LL40, LL130, LL420, pk_mul, nI_add]; congr 1; omega)) (by omega) (Nat.le_of_ble_eq_true rfl) ?_
  show ab_Z m_Mo_init _ _ _ 355 [_] [] _
  refine ab_go ok_Mo_init 10 rfl ?_
  show ab_Z m_Mo_init _ _ _ 365 [_] [_, _, _, _, _, _, _, _, _] _
  refine ab_cl ok_Mo_init rfl [_, _, _, _, _, _, _] [_, _] rfl rfl (Nat.le_of_ble_eq_true rfl) (v_Mo_letters _ _ _ _ _ _ _ _ _) ?_
  rintro _ _ ⟨rfl, rfl⟩
  show ab_Z m_Mo_init _ _ _ 366 [_] [_, _, _] _
  refine ab_ls ok_Mo_init rfl rfl (k := 13) (by first | rfl | (simp only [LL1, LL2, LL3, LL4, LL5, LL6, LL7, LL8, LL10, LL15, LL18, LL20, LL21, LL22, LL23, LL24, LL32, LL39, LL40, LL130, LL420, pk_mul, nI_add]; done) | (simp only [LL1, LL2, LL3, LL4, LL5, LL6, LL7, LL8, LL10, LL15, LL18, LL20, LL21, LL22, LL23, LL24, LL32, LL39, LL40, LL130, LL420, pk_mul, nI_add]; congr 1; omega)) (by omega) (Nat.le_of_ble_eq_true rfl) ?_
  show ab_Z m_Mo_init _ _ _ 367 [_] [] _
  refine ab_go ok_Mo_init 10 rfl ?_
  show ab_Z m_Mo_init _ _ _ 377 [_] [_, _, _, _, _, _, _, _, _] _
  refine ab_cl ok_Mo_init rfl [_, _, _, _, _, _, _] [_, _] rfl rfl (Nat.le_of_ble_eq_true rfl) (v_Mo_letters _ _ _ _ _ _ _ _ _) ?_
  rintro _ _ ⟨rfl, rfl⟩
  show ab_Z m_Mo_init _ _ _ 378 [_] [_, _, _] _
  refine ab_ls ok_Mo_init rfl rfl (k := 14) (by first | rfl | (simp only [LL1, LL2, LL3, LL4, LL5, LL6, LL7, LL8, LL10, LL15, LL18, LL20, LL21, LL22, LL23, LL24, LL32, LL39, LL40, LL130, LL420, pk_mul, nI_add]; done) | (simp only [LL1, LL2, LL3, LL4, LL5, LL6, LL7, LL8, LL10, LL15, LL18, LL20, LL21, LL22, LL23, LL24, LL32, LL39, LL40, LL130, LL420, pk_mul, nI_add]; congr 1; omega)) (by omega) (Nat.le_of_ble_eq_true rfl) ?_
  show ab_Z m_Mo_init _ _ _ 379 [_] [] _
  refine ab_go ok_Mo_init 10 rfl ?_
  show ab_Z m_Mo_init _ _ _ 389 [_] [_, _, _, _, _, _, _, _, _] _
  refine ab_cl ok_Mo_init rfl [_, _, _, _, _, _, _] [_, _] rfl rfl (Nat.le_of_ble_eq_true rfl) (v_Mo_letters _ _ _ _ _ _ _ _ _) ?_
  rintro _ _ ⟨rfl, rfl⟩
  show ab_Z m_Mo_init _ _ _ 390 [_] [_, _, _] _
  refine ab_ls ok_Mo_init rfl rfl (k := 15) (by first | rfl | (simp only [LL1, LL2, LL3, LL4, LL5, LL6, LL7, LL8, LL10, LL15, LL18, LL20, LL21, LL22, LL23, LL24, LL32, LL39, LL40, LL130, LL420, pk_mul, nI_add]; done) | (simp only [LL1, LL2, LL3, LL4, LL5, LL6, LL7, LL8, LL10, LL15, LL18, LL20, LL21, LL22, LL23, LL24, LL32, LL39, LL40, LL130, LL420, pk_mul, nI_add]; congr 1; omega)) (by omega) (Nat.le_of_ble_eq_true rfl) ?_
  show ab_Z m_Mo_init _ _ _ 391 [_] [] _
  refine ab_go ok_Mo_init 10 rfl ?_
  show ab_Z m_Mo_init _ _ _ 401 [_] [_, _, _, _, _, _, _, _, _] _
  refine ab_cl ok_Mo_init rfl [_, _, _, _, _, _, _] [_, _] rfl rfl (Nat.le_of_ble_eq_true rfl) (v_Mo_letters _ _ _ _ _ _ _ _ _) ?_
  rintro _ _ ⟨rfl, rfl⟩
  show ab_Z m_Mo_init _ _ _ 402 [_] [_, _, _] _
  refine ab_ls ok_Mo_init rfl rfl (k := 16) (by first | rfl | (simp only [LL1, LL2, LL3, LL4, LL5, LL6, LL7, LL8, LL10, LL15, LL18, LL20, LL21, LL22, LL23, LL24, LL32, LL39, LL40, LL130, LL420, pk_mul, nI_add]; done) | (simp only [LL1, LL2, LL3, LL4, LL5, LL6, LL7, LL8, LL10, LL15, LL18, LL20, LL21, LL22, LL23, LL24, LL32, LL39, LL40, LL130, LL420, pk_mul, nI_add]; congr 1; omega)) (by omega) (Nat.le_of_ble_eq_true rfl) ?_
  show ab_Z m_Mo_init _ _ _ 403 [_] [] _
  refine ab_go ok_Mo_init 10 rfl ?_
  show ab_Z m_Mo_init _ _ _ 413 [_] [_, _, _, _, _, _, _, _, _] _
  refine ab_cl ok_Mo_init rfl [_, _, _, _, _, _, _] [_, _] rfl rfl (Nat.le_of_ble_eq_true rfl) (v_Mo_letters _ _ _ _ _ _ _ _ _) ?_
  rintro _ _ ⟨rfl, rfl⟩
  show ab_Z m_Mo_init _ _ _ 414 [_] [_, _, _] _
  refine ab_ls ok_Mo_init rfl rfl (k := 17) (by first | rfl | (simp only [LL1, LL2, LL3, LL4, LL5, LL6, LL7, LL8, LL10, LL15, LL18, LL20, LL21, LL22, LL23, LL24, LL32, LL39, LL40, LL130, LL420, pk_mul, nI_add]; done) | (simp only [LL1, LL2, LL3, LL4, LL5, LL6, LL7, LL8, LL10, LL15, LL18, LL20, LL21, LL22, LL23, LL24, LL32, LL39, LL40, LL130, LL420, pk_mul, nI_add]; congr 1; omega)) (by omega) (Nat.le_of_ble_eq_true rfl) ?_
  show ab_Z m_Mo_init _ _ _ 415 [_] [] _
  refine ab_go ok_Mo_init 10 rfl ?_
  show ab_Z m_Mo_init _ _ _ 425 [_] [_, _, _, _, _, _, _, _, _] _
  refine ab_cl ok_Mo_init rfl [_, _, _, _, _, _, _] [_, _] rfl rfl (Nat.le_of_ble_eq_true rfl) (v_Mo_letters _ _ _ _ _ _ _ _ _) ?_
  rintro _ _ ⟨rfl, rfl⟩
  show ab_Z m_Mo_init _ _ _ 426 [_] [_, _, _] _
  refine ab_ls ok_Mo_init rfl rfl (k := 18) (by first | rfl | (simp only [LL1, LL2, LL3, LL4, LL5, LL6, LL7, LL8, LL10, LL15, LL18, LL20, LL21, LL22, LL23, LL24, LL32, LL39, LL40, LL130, LL420, pk_mul, nI_add]; done) | (simp only [LL1, LL2, LL3, LL4, LL5, LL6, LL7, LL8, LL10, LL15, LL18, LL20, LL21, LL22, LL23, LL24, LL32, LL39, LL40, LL130, LL420, pk_mul, nI_add]; congr 1; omega)) (by omega) (Nat.le_of_ble_eq_true rfl) ?_
  show ab_Z m_Mo_init _ _ _ 427 [_] [] _
  refine ab_go ok_Mo_init 10 rfl ?_
  show ab_Z m_Mo_init _ _ _ 437 [_] [_, _, _, _, _, _, _, _, _] _
  refine ab_cl ok_Mo_init rfl [_, _, _, _, _, _, _] [_, _] rfl rfl (Nat.le_of_ble_eq_true rfl) (v_Mo_letters _ _ _ _ _ _ _ _ _) ?_
  rintro _ _ ⟨rfl, rfl⟩
  show ab_Z m_Mo_init _ _ _ 438 [_] [_, _, _] _
  refine ab_ls ok_Mo_init rfl rfl (k := 19) (by first | rfl | (simp only [LL1, LL2, LL3, LL4, LL5, LL6, LL7, LL8, LL10, LL15, LL18, LL20, LL21, LL22, LL23, LL24, LL32, LL39, LL40, LL130, LL420, pk_mul, nI_add]; done) | (simp only [LL1, LL2, LL3, LL4, LL5, LL6, LL7, LL8, LL10, LL15, LL18, LL20, LL21, LL22, LL23, LL24, LL32, LL39, LL40, LL130, LL420, pk_mul, nI_add]; congr 1; omega)) (by omega) (Nat.le_of_ble_eq_true rfl) ?_
  show ab_Z m_Mo_init _ _ _ 439 [_] [] _
  refine ab_go ok_Mo_init 10 rfl ?_
  show ab_Z m_Mo_init _ _ _ 449 [_] [_, _, _, _, _, _, _, _, _] _
  refine ab_cl ok_Mo_init rfl [_, _, _, _, _, _, _] [_, _] rfl rfl (Nat.le_of_ble_eq_true rfl) (v_Mo_letters _ _ _ _ _ _ _ _ _) ?_
  rintro _ _ ⟨rfl, rfl⟩
  show ab_Z m_Mo_init _ _ _ 450 [_] [_, _, _] _
  refine ab_ls ok_Mo_init rfl rfl (k := 20) (by first | rfl | (simp only [LL1, LL2, LL3, LL4, LL5, LL6, LL7, LL8, LL10, LL15, LL18, LL20, LL21, LL22, LL23, LL24, LL32, LL39, LL40, LL130, LL420, pk_mul, nI_add]; done) | (simp only [LL1, LL2, LL3, LL4, LL5, LL6, LL7, LL8, LL10, LL15, LL18, LL20, LL21, LL22, LL23, LL24, LL32, LL39, LL40, LL130, LL420, pk_mul, nI_add]; congr 1; omega)) (by omega) (Nat.le_of_ble_eq_true rfl) ?_
  show ab_Z m_Mo_init _ _ _ 451 [_] [] _
  have hD : DM s2 0 tx0 := by
    have c1 : ∀ c, c = 91 ∨ c = 94 ∨ c = 97 ∨ c = 100 ∨ c = 101 → s2 c 0 = 0 := fun c hc => (k2 c 0 (wM_o (sd := 0) (by decide) (Or.inr (Or.inr (Or.inr (Or.inr (Or.inr (Or.inl ⟨hc, rfl⟩)))))))).trans (a1 c hc)
    exact ⟨⟨c1 91 (by omega), Nat.zero_le _, fun c hc => absurd hc (Nat.not_lt_zero c)⟩, ⟨c1 94 (by omega), Nat.zero_le _, fun c hc => absurd hc (Nat.not_lt_zero c)⟩, ⟨c1 97 (by omega), Nat.zero_le _, fun c hc => absurd hc (Nat.not_lt_zero c)⟩, c1 100 (by omega), c1 101 (by omega)⟩
  have hl : ∀ k, k < 4 → s2 102 k = s2 103 k := fun k hk => by
    have e : ∀ y, y = 102 ∨ y = 103 → s2 y k = s1 y k := fun y hy => k2 y k (wM_o (sd := 0) (by decide) (Or.inr (Or.inr (Or.inr (Or.inr (Or.inr (Or.inr (Or.inl ⟨hy, by omega, by omega⟩))))))))
    have := l1 k hk
    rw [show 4 * 0 + k = k by omega] at this
    rw [e 102 (by omega), e 103 (by omega), this.1, this.2]
  have h2 : ∀ c, ¬ (c = 91 ∨ c = 94 ∨ c = 97 ∨ c = 100 ∨ c = 101 ∨ c = 102 ∨ c = 103) → s2 c = s0 c := fun c hc => (o2 c hc).trans (o1 c hc)
  have h18 : s2 81 18 = nI 0 := by rw [h2 81 (by omega), z81]; rfl
  have hW : WdR (ab_up (ab_up (ab_up (ab_up (ab_up (ab_up (ab_up (ab_up (ab_up (ab_up (ab_up (ab_up (ab_up (ab_up (ab_up (ab_up (ab_up (ab_up (ab_up (ab_up (ab_up t0 88 0 ((keyV.getD 0 []).foldl apF 0)) 88 1 ((keyV.getD 1 []).foldl apF 0)) 88 2 ((keyV.getD 2 []).foldl apF 0)) 88 3 ((keyV.getD 3 []).foldl apF 0)) 88 4 ((keyV.getD 4 []).foldl apF 0)) 88 5 ((keyV.getD 5 []).foldl apF 0)) 88 6 ((keyV.getD 6 []).foldl apF 0)) 88 7 ((keyV.getD 7 []).foldl apF 0)) 88 8 ((keyV.getD 8 []).foldl apF 0)) 88 9 ((keyV.getD 9 []).foldl apF 0)) 88 10 ((keyV.getD 10 []).foldl apF 0)) 88 11 ((keyV.getD 11 []).foldl apF 0)) 88 12 ((keyV.getD 12 []).foldl apF 0)) 88 13 ((keyV.getD 13 []).foldl apF 0)) 88 14 ((keyV.getD 14 []).foldl apF 0)) 88 15 ((keyV.getD 15 []).foldl apF 0)) 88 16 ((keyV.getD 16 []).foldl apF 0)) 88 17 ((keyV.getD 17 []).foldl apF 0)) 88 18 ((keyV.getD 18 []).foldl apF 0)) 88 19 ((keyV.getD 19 []).foldl apF 0)) 88 20 ((keyV.getD 20 []).foldl apF 0)) := fun k w hw => by
    have hk : k < 21 := (List.getElem?_eq_some_iff.mp hw).1
    rw [keys_e t0 k hk, key_e k hk, List.getD_eq_getElem?_getD, hw]
    rfl
  have ht : ∀ c, c < 81 → (ab_up (ab_up (ab_up (ab_up (ab_up (ab_up (ab_up (ab_up (ab_up (ab_up (ab_up (ab_up (ab_up (ab_up (ab_up (ab_up (ab_up (ab_up (ab_up (ab_up (ab_up t0 88 0 ((keyV.getD 0 []).foldl apF 0)) 88 1 ((keyV.getD 1 []).foldl apF 0)) 88 2 ((keyV.getD 2 []).foldl apF 0)) 88 3 ((keyV.getD 3 []).foldl apF 0)) 88 4 ((keyV.getD 4 []).foldl apF 0)) 88 5 ((keyV.getD 5 []).foldl apF 0)) 88 6 ((keyV.getD 6 []).foldl apF 0)) 88 7 ((keyV.getD 7 []).foldl apF 0)) 88 8 ((keyV.getD 8 []).foldl apF 0)) 88 9 ((keyV.getD 9 []).foldl apF 0)) 88 10 ((keyV.getD 10 []).foldl apF 0)) 88 11 ((keyV.getD 11 []).foldl apF 0)) 88 12 ((keyV.getD 12 []).foldl apF 0)) 88 13 ((keyV.getD 13 []).foldl apF 0)) 88 14 ((keyV.getD 14 []).foldl apF 0)) 88 15 ((keyV.getD 15 []).foldl apF 0)) 88 16 ((keyV.getD 16 []).foldl apF 0)) 88 17 ((keyV.getD 17 []).foldl apF 0)) 88 18 ((keyV.getD 18 []).foldl apF 0)) 88 19 ((keyV.getD 19 []).foldl apF 0)) 88 20 ((keyV.getD 20 []).foldl apF 0)) c = t c := fun c hc => by
    have : c ≠ 88 := by omega
    simp only [ab_up_o this]
    exact z1 c hc
  refine ab_go ok_Mo_init 1 rfl ?_
  show ab_Z m_Mo_init _ _ _ 452 [_] [_] _
  refine ab_cl ok_Mo_init rfl [_] [] rfl ⟨_, _, rfl, rfl, Or.inl ⟨_, _, rfl, rfl⟩⟩ (Nat.le_of_ble_eq_true rfl) (t_Mo_begins _ fm X s2 _ hD h18 (by decide)) ?_
  rintro _ _ ⟨rfl, g, rfl, hg⟩
  show ab_Z m_Mo_init _ _ _ 453 [_] [] _
  refine ab_go ok_Mo_init 1 rfl ?_
  show ab_Z m_Mo_init _ _ _ 454 [_] [_] _
  refine ab_cl ok_Mo_init rfl [_] [] rfl ⟨_, _, rfl, rfl, Or.inl ⟨_, _, rfl, rfl⟩⟩ (Nat.le_of_ble_eq_true rfl) (t_Mo_keepsRow _ fm X _ _) ?_
  rintro _ _ ⟨rfl, rfl⟩
  show ab_Z m_Mo_init _ _ _ 455 [_] [] _
  refine ab_rV ok_Mo_init rfl ?_
  rw [← hPo]
  refine ⟨rfl, _, _, rfl, fun c hc => ?_, ht, hW, ?_, ?_, ?_, ?_, ?_, ?_⟩
  · rw [ab_ro_o (by omega), ab_up_o (by omega), ab_ro_o (by omega), h2 c (by omega)]
    exact z0 c hc
  · exact DM.of (fun c h1 h2 => by rw [ab_ro_o (by omega), ab_up_o (by omega), ab_ro_o (by omega)]) hD
  · intro k hk
    exact hl k hk
  · show s2 82 = _
    rw [h2 82 (by omega)]; exact z82
  · show s2 127 = _
    rw [h2 127 (by omega)]; exact z127
  · intro k
    rw [ab_ro_o (by decide), ab_up_c]
    show (if k = 52 then nI (xSd tx0) else s2 81 k) = _
    rw [h2 81 (by omega), z81]
    by_cases h52 : k = 52
    · subst h52; rfl
    · rw [if_neg h52]
  · intro j hj
    rw [ab_ro_c, f40_lt hj, ab_up_o (by decide), ab_ro_c]
    exact hg j hj
end

