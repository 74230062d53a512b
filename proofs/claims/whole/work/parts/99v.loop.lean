/-! the law's loop, and its beginning -/
theorem tgt_P {P : Nat → Prop} {ts : List Nat} {df : Nat} (h0 : P df) (h : ∀ j, j < ts.length → P (ts.getD j df)) (x : Int32) : P (ab_tgt 0 ts df x) := by
  unfold ab_tgt
  split
  · exact h0
  · exact h _ (by omega)
section
variable {L : Nat} {xs : Nat → Int32} {fm : Value} {Po : Option Value → ab_H → Prop}
set_option maxRecDepth 8192 in
theorem lw_loop (hL : L ≤ 3072) (hPo : ∀ h, Po (some (.int 1)) h) : ∀ (k i : Nat) (b : Bool) (s : Nat → Nat → Int32) (t : Nat → Nat → Int64), i + k = 600 → 6 * i ≤ L + 6 → INV i s t → ab_Z m_Lw_law 27 (0, 0) Po 10 [some (.ref 9001), some (.ref 0), some (.ref 81), some (.int (nI (6 * i)))] [] (hq b fm (L, xs) s t)
  | k, i, b, s, t, hk, hiL, h => by
    obtain ⟨S, T, RO, e1⟩ := hq_t b fm (L, xs) s t
    rw [e1]
    refine ab_go ok_Lw_law 5 rfl ?_
    show ab_Z m_Lw_law _ _ _ 15 [_, _, _, _] [_, _] _
    rw [show Int32.ofNat L = nI L from rfl]
    refine ab_br ok_Lw_law rfl rfl ?_ ?_
    · intro h1
      show ab_Z m_Lw_law _ _ _ 929 [_, _, _, _] [] _
      refine ab_go ok_Lw_law 1 rfl ?_
      show ab_Z m_Lw_law _ _ _ 930 [_, _, _, _] [_] _
      exact ab_rZ ok_Lw_law rfl (by decide) (hPo _)
    · intro h1
      show ab_Z m_Lw_law _ _ _ 16 [_, _, _, _] [] _
      have hi : 6 * i + 6 ≤ L := by
        have h2 : ¬ (nI L - 6 : Int32).toInt < (nI (6 * i)).toInt := fun z => h1 (Int32.lt_iff_toInt_lt.mpr z)
        have h3 : (nI L - 6 : Int32).toInt = (L : Int) - 6 := pk_sub_toInt (b := 6) (by omega) (by decide)
        rw [h3, nI_t (by omega)] at h2
        omega
      obtain ⟨k', rfl⟩ : ∃ k', k = k' + 1 := ⟨k - 1, by omega⟩
      have nx : ∀ b s t, INV (i + 1) s t → ab_Z m_Lw_law 27 (0, 0) Po 927 [some (.ref 9001), some (.ref 0), some (.ref 81), some (.int (nI (6 * i)))] [] (hq b fm (L, xs) s t) := fun b s t hI => by
        have ih := lw_loop hL hPo k' (i + 1) b s t (by omega) (by omega) hI
        rw [show nI (6 * (i + 1)) = nI (6 * i) + 6 from by rw [show (6 : Int32) = nI 6 from rfl, nI_add]; rfl] at ih
        refine ab_go ok_Lw_law 2 rfl ?_
        show ab_Z m_Lw_law _ _ _ 10 [_, _, _, _] [] _
        exact ih
      refine ab_go ok_Lw_law 2 rfl ?_
      show ab_Z m_Lw_law _ _ _ 18 [_, _, _, _] [_, _] _
      refine ab_sx ok_Lw_law rfl (k := 6 * i) rfl (by omega) (by omega) rfl ?_
      show ab_Z m_Lw_law _ _ _ 19 [_, _, _, _] [_] _
      refine ab_go ok_Lw_law 2 rfl ?_
      show ab_Z m_Lw_law _ _ _ 21 [_, _, _, _] [_] _
      refine ab_go ok_Lw_law 1 rfl ?_
      rw [← e1]
      refine tgt_P (P := fun p => ab_Z m_Lw_law 27 (0, 0) Po p (ab_mk m_Lw_law p [some (.ref 9001), some (.ref 0), some (.ref 81), some (.int (nI (6 * i)))]) [] (hq b fm (L, xs) s t)) ?_ ?_ _
      · exact nx b s t (h.ka (KAl.rf s))
      · intro j hj
        exact match j, hj with
        | 0, _ => lw_feed hi hL h nx
        | 1, _ => lw_back hi hL h nx
        | 2, _ => lw_read hi hL h nx
        | 3, _ => lw_place hi hL h nx
        | 4, _ => lw_clerk hi hL h nx
        | 5, _ => lw_deed hi hL h nx
        | 6, _ => lw_treaty hi hL h nx
        | 7, _ => lw_takes hi hL h nx
        | 8, _ => lw_seal hi hL h nx
        | 9, _ => lw_forge hi hL h nx
        | 10, _ => lw_burn hi hL h nx
        | 11, _ => lw_years hi hL h nx
        | 12, _ => lw_undo hi hL h nx
        | 13, _ => lw_all hi hL h nx
        | 14, _ => lw_fewest hi hL h nx
        | 15, _ => lw_match hi hL h nx
        | 16, _ => lw_greatest hi hL h nx
        | 17, _ => lw_weakest hi hL h nx
        | 18, _ => lw_hands hi hL h nx
        | 19, _ => lw_work hi hL h nx
        | 20, _ => lw_game hi hL h nx
        | 21, _ => lw_breaks hi hL h nx
        | 22, _ => lw_lent hi hL h nx
        | 23, _ => lw_apart hi hL h nx
        | 24, _ => lw_like hi hL h nx
        | 25, _ => lw_twins hi hL h nx
        | 26, _ => lw_heals hi hL h nx
        | 27, _ => lw_blank hi hL h nx
        | 28, _ => lw_barest hi hL h nx
        | 29, _ => lw_reads hi hL h nx
        | 30, _ => lw_levelIn hi hL h nx
        | 31, _ => lw_printIn hi hL h nx
        | 32, _ => lw_bindsIn hi hL h nx
        | 33, _ => lw_year hi hL h nx
        | 34, _ => lw_tell hi hL h nx
        | 35, _ => lw_forget hi hL h nx
        | 36, _ => lw_who hi hL h nx
        | 37, _ => lw_look hi hL h nx
        | 38, _ => lw_hold hi hL h nx
        | 39, _ => lw_restore hi hL h nx
        | 40, _ => lw_count hi hL h nx
        | j + 41, hj => absurd hj (by have : (41 : Nat) = List.length [22, 79, 96, 103, 110, 137, 164, 191, 228, 255, 272, 289, 306, 313, 330, 347, 364, 381, 398, 415, 432, 449, 466, 493, 520, 537, 564, 581, 598, 615, 632, 669, 706, 723, 750, 795, 802, 839, 876, 893, 910] := rfl; omega)
end
theorem opR_app {α : Type} (z : α) : ∀ (a b : List (Nat × Option (Nat × α))) (f : Nat → Nat → α), opR z (a ++ b) f = opR z b (opR z a f)
  | [], b, f => rfl
  | (n, none) :: r, b, f => opR_app z r b _
  | (p, some (k, v)) :: r, b, f => opR_app z r b _
def opSfR : List (Nat × Option (Nat × Value)) := [(0, none), (1, none), (2, none), (1, some (0, .ref 2)), (0, some (0, .ref 1)), (3, none), (4, none), (3, some (0, .ref 4)), (5, none), (3, some (1, .ref 5)), (6, none), (3, some (2, .ref 6)), (7, none), (3, some (3, .ref 7)), (0, some (1, .ref 3)), (8, none), (8, some (0, .ref 3)), (0, some (2, .ref 8)), (9, none), (10, none), (11, none), (10, some (0, .ref 11)), (9, some (0, .ref 10)), (12, none), (9, some (1, .ref 12)), (13, none), (9, some (2, .ref 13)), (14, none), (15, none), (14, some (0, .ref 15)), (16, none), (14, some (1, .ref 16)), (17, none), (14, some (2, .ref 17)), (18, none), (14, some (3, .ref 18)), (19, none), (14, some (4, .ref 19)), (20, none), (14, some (5, .ref 20)), (21, none), (14, some (6, .ref 21)), (22, none), (23, none), (22, some (0, .ref 23)), (24, none), (22, some (1, .ref 24)), (25, none), (22, some (2, .ref 25)), (14, some (7, .ref 22)), (26, none), (27, none), (26, some (0, .ref 27)), (28, none), (26, some (1, .ref 28)), (29, none), (26, some (2, .ref 29)), (14, some (8, .ref 26)), (30, none), (31, none), (30, some (0, .ref 31)), (32, none), (30, some (1, .ref 32)), (33, none), (30, some (2, .ref 33)), (14, some (9, .ref 30)), (34, none), (35, none), (34, some (0, .ref 35)), (36, none), (34, some (1, .ref 36)), (37, none), (34, some (2, .ref 37)), (14, some (10, .ref 34)), (9, some (3, .ref 14)), (0, some (3, .ref 9)), (38, none), (39, none), (38, some (0, .ref 39)), (40, none), (38, some (1, .ref 40)), (0, some (4, .ref 38)), (41, none), (42, none), (41, some (0, .ref 42)), (43, none), (41, some (1, .ref 43)), (44, none), (41, some (2, .ref 44)), (0, some (5, .ref 41)), (45, none), (46, none), (45, some (1, .ref 46)), (47, none), (45, some (2, .ref 47)), (48, none), (45, some (3, .ref 48)), (49, none), (45, some (4, .ref 49)), (50, none), (45, some (5, .ref 50)), (51, none), (45, some (6, .ref 51)), (45, some (0, .ref 9)), (0, some (6, .ref 45)), (52, none), (53, none), (52, some (1, .ref 53)), (54, none), (52, some (2, .ref 54)), (55, none), (52, some (3, .ref 55)), (56, none), (52, some (4, .ref 56)), (52, some (0, .ref 9)), (0, some (7, .ref 52)), (57, none), (58, none), (57, some (0, .ref 58)), (59, none), (57, some (1, .ref 59)), (60, none), (57, some (2, .ref 60)), (61, none), (57, some (3, .ref 61)), (62, none), (57, some (4, .ref 62)), (63, none), (57, some (5, .ref 63)), (64, none), (57, some (6, .ref 64)), (65, none), (66, none), (65, some (0, .ref 66)), (67, none), (65, some (1, .ref 67)), (68, none), (65, some (2, .ref 68)), (57, some (7, .ref 65)), (69, none), (70, none), (69, some (0, .ref 70)), (71, none), (69, some (1, .ref 71)), (72, none), (69, some (2, .ref 72)), (57, some (8, .ref 69)), (73, none), (74, none), (73, some (0, .ref 74)), (75, none), (73, some (1, .ref 75)), (76, none), (73, some (2, .ref 76)), (57, some (9, .ref 73)), (77, none), (78, none), (77, some (0, .ref 78)), (79, none), (77, some (1, .ref 79)), (80, none), (77, some (2, .ref 80)), (57, some (10, .ref 77)), (0, some (8, .ref 57)), (81, none)]
set_option maxRecDepth 100000 in
theorem op_all : opL (opSfR ++ opMoR) [] = some roT := by rfl
theorem ro_all (fm : Value) : opR .null opMoR (opR .null opSfR (roL fm [])) = roA fm := by
  rw [← opR_app, opL_e fm _ _ _ op_all]
  rfl
theorem cl_one {s : Nat → Nat → Int32} {p : Nat} {e : Ins} (h4 : s p 4 = nI 1) (h2 : s (p + 2) 0 = nI 1) (h1 : s (p + 1) 0 = encI e) (he : okQ [e] 0) : CLaw s p [[e]] := by
  refine ⟨h4, show 1 ≤ 1 by decide, show 1 ≤ 13 by decide, show 1 ≤ 400 by decide, fun i hi => ?_, fun i Q hi j q hj => ?_, fun Q hQ => ?_⟩
  · have h0 : i = 0 := by simpa using hi
    subst h0
    exact h2
  · have h0 : i = 0 := by
      have := (List.getElem?_eq_some_iff.mp hi).1
      simpa using this
    subst h0
    cases hi
    have h0 : j = 0 := by
      have := (List.getElem?_eq_some_iff.mp hj).1
      simpa using this
    subst h0
    cases hj
    exact h1
  · have := List.mem_singleton.mp hQ
    subst this
    exact he

