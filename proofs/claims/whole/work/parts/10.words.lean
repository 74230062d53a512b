theorem ab_mg {w : Cond} {l : List Cond} (hs : ∀ w ∈ l, w ∈ lw_tbl) (i : Nat) (h : l[i]? = some w) (g : goodWord w = true) : w ∈ ab_good := List.mem_filter.mpr ⟨hs _ (List.mem_of_getElem? h), g⟩
theorem ab_mn {w : Cond} {l : List Cond} (hs : ∀ w ∈ l, w ∈ lw_tbl) (i : Nat) (h : l[i]? = some w) (g : ab_isN w = true) : w ∈ ab_nest := List.mem_filter.mpr ⟨hs _ (List.mem_of_getElem? h), g⟩
theorem sb_t : ∀ w ∈ tables_1, w ∈ lw_tbl := fun w h => List.mem_append_right _ h
theorem sb_t1 : ∀ w ∈ tables_1_1, w ∈ lw_tbl := fun w h => sb_t w (List.mem_append_left _ h)
theorem sb_t2 : ∀ w ∈ tables_1_2, w ∈ lw_tbl := fun w h => sb_t w (List.mem_append_right _ (List.mem_append_left _ h))
theorem sb_t3 : ∀ w ∈ tables_1_3, w ∈ lw_tbl := fun w h => sb_t w (List.mem_append_right _ (List.mem_append_right _ (List.mem_append_left _ h)))
theorem sb_t4 : ∀ w ∈ tables_1_4, w ∈ lw_tbl := fun w h => sb_t w (List.mem_append_right _ (List.mem_append_right _ (List.mem_append_right _ (List.mem_append_left _ h))))
theorem sb_t5 : ∀ w ∈ tables_1_5, w ∈ lw_tbl := fun w h => sb_t w (List.mem_append_right _ (List.mem_append_right _ (List.mem_append_right _ (List.mem_append_right _ (List.mem_append_left _ h)))))
theorem sb_t6 : ∀ w ∈ tables_1_6, w ∈ lw_tbl := fun w h => sb_t w (List.mem_append_right _ (List.mem_append_right _ (List.mem_append_right _ (List.mem_append_right _ (List.mem_append_right _ (List.mem_append_left _ h))))))
theorem sb_t7 : ∀ w ∈ tables_1_7, w ∈ lw_tbl := fun w h => sb_t w (List.mem_append_right _ (List.mem_append_right _ (List.mem_append_right _ (List.mem_append_right _ (List.mem_append_right _ (List.mem_append_right _ (List.mem_append_left _ h)))))))
theorem sb_t8 : ∀ w ∈ tables_1_8, w ∈ lw_tbl := fun w h => sb_t w (List.mem_append_right _ (List.mem_append_right _ (List.mem_append_right _ (List.mem_append_right _ (List.mem_append_right _ (List.mem_append_right _ (List.mem_append_right _ (List.mem_append_left _ h))))))))
theorem sb_t9 : ∀ w ∈ tables_1_9, w ∈ lw_tbl := fun w h => sb_t w (List.mem_append_right _ (List.mem_append_right _ (List.mem_append_right _ (List.mem_append_right _ (List.mem_append_right _ (List.mem_append_right _ (List.mem_append_right _ (List.mem_append_right _ (h)))))))))
theorem sb_p1 : ∀ w ∈ k2_sels lw_privs_1, w ∈ lw_tbl := by
  intro w h
  obtain ⟨q, hq, rfl⟩ := List.mem_map.mp h
  exact List.mem_append_left _ (List.mem_map.mpr ⟨q, List.mem_append_left _ hq, rfl⟩)
theorem sb_p2 : ∀ w ∈ k2_sels lw_privs_2, w ∈ lw_tbl := by
  intro w h
  obtain ⟨q, hq, rfl⟩ := List.mem_map.mp h
  exact List.mem_append_left _ (List.mem_map.mpr ⟨q, List.mem_append_right _ (List.mem_append_left _ hq), rfl⟩)
theorem sb_p3 : ∀ w ∈ k2_sels lw_privs_3, w ∈ lw_tbl := by
  intro w h
  obtain ⟨q, hq, rfl⟩ := List.mem_map.mp h
  exact List.mem_append_left _ (List.mem_map.mpr ⟨q, List.mem_append_right _ (List.mem_append_right _ (List.mem_append_left _ hq)), rfl⟩)
theorem sb_p4 : ∀ w ∈ k2_sels lw_privs_4, w ∈ lw_tbl := by
  intro w h
  obtain ⟨q, hq, rfl⟩ := List.mem_map.mp h
  exact List.mem_append_left _ (List.mem_map.mpr ⟨q, List.mem_append_right _ (List.mem_append_right _ (List.mem_append_right _ (List.mem_append_left _ hq))), rfl⟩)
theorem sb_p5 : ∀ w ∈ k2_sels lw_privs_5, w ∈ lw_tbl := by
  intro w h
  obtain ⟨q, hq, rfl⟩ := List.mem_map.mp h
  exact List.mem_append_left _ (List.mem_map.mpr ⟨q, List.mem_append_right _ (List.mem_append_right _ (List.mem_append_right _ (List.mem_append_right _ (List.mem_append_left _ hq)))), rfl⟩)
theorem sb_p6 : ∀ w ∈ k2_sels lw_privs_6, w ∈ lw_tbl := by
  intro w h
  obtain ⟨q, hq, rfl⟩ := List.mem_map.mp h
  exact List.mem_append_left _ (List.mem_map.mpr ⟨q, List.mem_append_right _ (List.mem_append_right _ (List.mem_append_right _ (List.mem_append_right _ (List.mem_append_right _ (List.mem_append_left _ hq))))), rfl⟩)
theorem sb_p7 : ∀ w ∈ k2_sels lw_privs_7, w ∈ lw_tbl := by
  intro w h
  obtain ⟨q, hq, rfl⟩ := List.mem_map.mp h
  exact List.mem_append_left _ (List.mem_map.mpr ⟨q, List.mem_append_right _ (List.mem_append_right _ (List.mem_append_right _ (List.mem_append_right _ (List.mem_append_right _ (List.mem_append_right _ (hq)))))), rfl⟩)
theorem ab_in {ws : List Cond} (ps : List Nat) (h : ws = ps.filterMap (fun i => lw_tbl[i]?)) (g : ws.all goodWord = true) : ∀ w ∈ ws, w ∈ ab_good := by
  intro w hw
  refine List.mem_filter.mpr ⟨?_, List.all_eq_true.mp g w hw⟩
  rw [h] at hw
  obtain ⟨i, -, hi⟩ := List.mem_filterMap.mp hw
  exact List.mem_of_getElem? hi
def aN : ab_F := fun _ _ _ => none
theorem s_none {M : ab_M} {i : Nat} : ab_S M i aN := by
  intro d b Po L st h i' L' st' h' hf
  cases hf
theorem s_sw {M : ab_M} {i df : Nat} {lo hi o : Int} {os : Array Int} {ts : List Nat} {ln : Nat} (hd : decode (ab_by M) (ab_pc M i) = .ok (.tableswitch o lo hi os, ln)) (hhi : hi = lo + (ts.length : Int) - 1) (hdf : (ab_pc M i : Int) + o = (ab_pc M df : Int)) (hts : (List.range ts.length).all (fun j => decide (os[j]?.map (fun off => (ab_pc M i : Int) + off) = some (ab_pc M (ts.getD j df) : Int))) = true) : ab_S M i (aSw lo ts df) := by
  refine s_aSw hd hhi hdf fun j hj => ?_
  have := List.all_eq_true.mp hts j (List.mem_range.mpr hj)
  obtain ⟨off, h1, h2⟩ := Option.map_eq_some_iff.mp (of_decide_eq_true this)
  exact ⟨off, h1, h2⟩
set_option maxRecDepth 200000 in
set_option maxHeartbeats 4000000 in
theorem inX0 : ∀ w ∈ u_ws RX0 TX0 5, w ∈ ab_good :=
  List.forall_mem_cons.mpr ⟨ab_mg sb_t2 176 rfl rfl, 
  List.forall_mem_cons.mpr ⟨ab_mg sb_t2 178 rfl rfl, 
  List.forall_mem_cons.mpr ⟨ab_mg sb_t2 180 rfl rfl, 
  List.forall_mem_cons.mpr ⟨ab_mg sb_t2 182 rfl rfl, 
  List.forall_mem_cons.mpr ⟨ab_mg sb_t2 184 rfl rfl, fun _ h => absurd h List.not_mem_nil⟩⟩⟩⟩⟩
set_option maxRecDepth 200000 in
set_option maxHeartbeats 4000000 in
theorem inX1 : ∀ w ∈ u_ws RX1 TX1 4, w ∈ ab_good :=
  List.forall_mem_cons.mpr ⟨ab_mg sb_t2 81 rfl rfl, 
  List.forall_mem_cons.mpr ⟨ab_mg sb_t2 83 rfl rfl, 
  List.forall_mem_cons.mpr ⟨ab_mg sb_t2 85 rfl rfl, 
  List.forall_mem_cons.mpr ⟨ab_mg sb_t2 87 rfl rfl, fun _ h => absurd h List.not_mem_nil⟩⟩⟩⟩
set_option maxRecDepth 200000 in
set_option maxHeartbeats 4000000 in
theorem inX2 : ∀ w ∈ u_ws RX2 TX2 6, w ∈ ab_good :=
  List.forall_mem_cons.mpr ⟨ab_mg sb_t1 195 rfl rfl, 
  List.forall_mem_cons.mpr ⟨ab_mg sb_t1 197 rfl rfl, 
  List.forall_mem_cons.mpr ⟨ab_mg sb_t1 199 rfl rfl, 
  List.forall_mem_cons.mpr ⟨ab_mg sb_t1 201 rfl rfl, 
  List.forall_mem_cons.mpr ⟨ab_mg sb_t1 203 rfl rfl, 
  List.forall_mem_cons.mpr ⟨ab_mg sb_t1 205 rfl rfl, fun _ h => absurd h List.not_mem_nil⟩⟩⟩⟩⟩⟩
set_option maxRecDepth 200000 in
set_option maxHeartbeats 4000000 in
theorem inX3 : ∀ w ∈ u_ws RX3 TX3 5, w ∈ ab_good :=
  List.forall_mem_cons.mpr ⟨ab_mg sb_t2 102 rfl rfl, 
  List.forall_mem_cons.mpr ⟨ab_mg sb_t2 104 rfl rfl, 
  List.forall_mem_cons.mpr ⟨ab_mg sb_t2 106 rfl rfl, 
  List.forall_mem_cons.mpr ⟨ab_mg sb_t2 108 rfl rfl, 
  List.forall_mem_cons.mpr ⟨ab_mg sb_t2 110 rfl rfl, fun _ h => absurd h List.not_mem_nil⟩⟩⟩⟩⟩
set_option maxRecDepth 200000 in
set_option maxHeartbeats 4000000 in
theorem inX4 : ∀ w ∈ u_ws RX4 TX4 8, w ∈ ab_good :=
  List.forall_mem_cons.mpr ⟨ab_mg sb_t2 148 rfl rfl, 
  List.forall_mem_cons.mpr ⟨ab_mg sb_t2 150 rfl rfl, 
  List.forall_mem_cons.mpr ⟨ab_mg sb_t2 152 rfl rfl, 
  List.forall_mem_cons.mpr ⟨ab_mg sb_t2 154 rfl rfl, 
  List.forall_mem_cons.mpr ⟨ab_mg sb_t2 156 rfl rfl, 
  List.forall_mem_cons.mpr ⟨ab_mg sb_t2 158 rfl rfl, 
  List.forall_mem_cons.mpr ⟨ab_mg sb_t2 160 rfl rfl, 
  List.forall_mem_cons.mpr ⟨ab_mg sb_t2 162 rfl rfl, fun _ h => absurd h List.not_mem_nil⟩⟩⟩⟩⟩⟩⟩⟩
set_option maxRecDepth 200000 in
set_option maxHeartbeats 4000000 in
theorem inX5 : ∀ w ∈ u_ws RX5 TX5 7, w ∈ ab_good :=
  List.forall_mem_cons.mpr ⟨ab_mg sb_t1 142 rfl rfl, 
  List.forall_mem_cons.mpr ⟨ab_mg sb_t1 144 rfl rfl, 
  List.forall_mem_cons.mpr ⟨ab_mg sb_t1 146 rfl rfl, 
  List.forall_mem_cons.mpr ⟨ab_mg sb_t1 148 rfl rfl, 
  List.forall_mem_cons.mpr ⟨ab_mg sb_t1 150 rfl rfl, 
  List.forall_mem_cons.mpr ⟨ab_mg sb_t1 152 rfl rfl, 
  List.forall_mem_cons.mpr ⟨ab_mg sb_t1 154 rfl rfl, fun _ h => absurd h List.not_mem_nil⟩⟩⟩⟩⟩⟩⟩
set_option maxRecDepth 200000 in
set_option maxHeartbeats 4000000 in
theorem inX6 : ∀ w ∈ u_ws RX6 TX6 2, w ∈ ab_good :=
  List.forall_mem_cons.mpr ⟨ab_mg sb_t1 172 rfl rfl, 
  List.forall_mem_cons.mpr ⟨ab_mg sb_t1 174 rfl rfl, fun _ h => absurd h List.not_mem_nil⟩⟩
set_option maxRecDepth 200000 in
set_option maxHeartbeats 4000000 in
theorem inX7 : ∀ w ∈ u_ws RX7 TX7 2, w ∈ ab_good :=
  List.forall_mem_cons.mpr ⟨ab_mg sb_t1 40 rfl rfl, 
  List.forall_mem_cons.mpr ⟨ab_mg sb_t1 42 rfl rfl, fun _ h => absurd h List.not_mem_nil⟩⟩
set_option maxRecDepth 200000 in
set_option maxHeartbeats 4000000 in
theorem inX8 : ∀ w ∈ u_ws RX8 TX8 16, w ∈ ab_good :=
  List.forall_mem_cons.mpr ⟨ab_mg sb_t2 37 rfl rfl, 
  List.forall_mem_cons.mpr ⟨ab_mg sb_t2 39 rfl rfl, 
  List.forall_mem_cons.mpr ⟨ab_mg sb_t2 41 rfl rfl, 
  List.forall_mem_cons.mpr ⟨ab_mg sb_t2 43 rfl rfl, 
  List.forall_mem_cons.mpr ⟨ab_mg sb_t2 45 rfl rfl, 
  List.forall_mem_cons.mpr ⟨ab_mg sb_t2 47 rfl rfl, 
  List.forall_mem_cons.mpr ⟨ab_mg sb_t2 49 rfl rfl, 
  List.forall_mem_cons.mpr ⟨ab_mg sb_t2 51 rfl rfl, 
  List.forall_mem_cons.mpr ⟨ab_mg sb_t2 53 rfl rfl, 
  List.forall_mem_cons.mpr ⟨ab_mg sb_t2 55 rfl rfl, 
  List.forall_mem_cons.mpr ⟨ab_mg sb_t2 57 rfl rfl, 
  List.forall_mem_cons.mpr ⟨ab_mg sb_t2 59 rfl rfl, 
  List.forall_mem_cons.mpr ⟨ab_mg sb_t2 61 rfl rfl, 
  List.forall_mem_cons.mpr ⟨ab_mg sb_t2 63 rfl rfl, 
  List.forall_mem_cons.mpr ⟨ab_mg sb_t2 65 rfl rfl, 
  List.forall_mem_cons.mpr ⟨ab_mg sb_t2 67 rfl rfl, fun _ h => absurd h List.not_mem_nil⟩⟩⟩⟩⟩⟩⟩⟩⟩⟩⟩⟩⟩⟩⟩⟩
set_option maxRecDepth 200000 in
set_option maxHeartbeats 4000000 in
theorem inX9 : ∀ w ∈ u_ws RX9 TX9 5, w ∈ ab_good :=
  List.forall_mem_cons.mpr ⟨ab_mg sb_t1 115 rfl rfl, 
  List.forall_mem_cons.mpr ⟨ab_mg sb_t1 117 rfl rfl, 
  List.forall_mem_cons.mpr ⟨ab_mg sb_t1 119 rfl rfl, 
  List.forall_mem_cons.mpr ⟨ab_mg sb_t1 121 rfl rfl, 
  List.forall_mem_cons.mpr ⟨ab_mg sb_t1 123 rfl rfl, fun _ h => absurd h List.not_mem_nil⟩⟩⟩⟩⟩
set_option maxRecDepth 200000 in
set_option maxHeartbeats 4000000 in
theorem inX10 : ∀ w ∈ u_ws RX10 TX10 4, w ∈ ab_good :=
  List.forall_mem_cons.mpr ⟨ab_mg sb_t2 124 rfl rfl, 
  List.forall_mem_cons.mpr ⟨ab_mg sb_t2 126 rfl rfl, 
  List.forall_mem_cons.mpr ⟨ab_mg sb_t2 128 rfl rfl, 
  List.forall_mem_cons.mpr ⟨ab_mg sb_t2 130 rfl rfl, fun _ h => absurd h List.not_mem_nil⟩⟩⟩⟩
set_option maxRecDepth 200000 in
set_option maxHeartbeats 4000000 in
theorem inX11 : ∀ w ∈ u_ws RX11 TX11 10, w ∈ ab_good :=
  List.forall_mem_cons.mpr ⟨ab_mg sb_t2 199 rfl rfl, 
  List.forall_mem_cons.mpr ⟨ab_mg sb_t2 201 rfl rfl, 
  List.forall_mem_cons.mpr ⟨ab_mg sb_t2 203 rfl rfl, 
  List.forall_mem_cons.mpr ⟨ab_mg sb_t2 205 rfl rfl, 
  List.forall_mem_cons.mpr ⟨ab_mg sb_t2 207 rfl rfl, 
  List.forall_mem_cons.mpr ⟨ab_mg sb_t2 209 rfl rfl, 
  List.forall_mem_cons.mpr ⟨ab_mg sb_t2 211 rfl rfl, 
  List.forall_mem_cons.mpr ⟨ab_mg sb_t2 213 rfl rfl, 
  List.forall_mem_cons.mpr ⟨ab_mg sb_t2 215 rfl rfl, 
  List.forall_mem_cons.mpr ⟨ab_mg sb_t2 217 rfl rfl, fun _ h => absurd h List.not_mem_nil⟩⟩⟩⟩⟩⟩⟩⟩⟩⟩
set_option maxRecDepth 200000 in
set_option maxHeartbeats 4000000 in
theorem inX12 : ∀ w ∈ u_ws RX12 TX12 69, w ∈ ab_good :=
  List.forall_mem_cons.mpr ⟨ab_mg sb_t6 213 rfl rfl, 
  List.forall_mem_cons.mpr ⟨ab_mg sb_t6 215 rfl rfl, 
  List.forall_mem_cons.mpr ⟨ab_mg sb_t6 217 rfl rfl, 
  List.forall_mem_cons.mpr ⟨ab_mg sb_t6 219 rfl rfl, 
  List.forall_mem_cons.mpr ⟨ab_mg sb_t6 221 rfl rfl, 
  List.forall_mem_cons.mpr ⟨ab_mg sb_t6 223 rfl rfl, 
  List.forall_mem_cons.mpr ⟨ab_mg sb_t6 225 rfl rfl, 
  List.forall_mem_cons.mpr ⟨ab_mg sb_t6 227 rfl rfl, 
  List.forall_mem_cons.mpr ⟨ab_mg sb_t6 229 rfl rfl, 
  List.forall_mem_cons.mpr ⟨ab_mg sb_t6 231 rfl rfl, 
  List.forall_mem_cons.mpr ⟨ab_mg sb_t6 233 rfl rfl, 
  List.forall_mem_cons.mpr ⟨ab_mg sb_t6 235 rfl rfl, 
  List.forall_mem_cons.mpr ⟨ab_mg sb_t6 237 rfl rfl, 
  List.forall_mem_cons.mpr ⟨ab_mg sb_t6 239 rfl rfl, 
  List.forall_mem_cons.mpr ⟨ab_mg sb_t7 1 rfl rfl, 
  List.forall_mem_cons.mpr ⟨ab_mg sb_t7 3 rfl rfl, 
  List.forall_mem_cons.mpr ⟨ab_mg sb_t7 5 rfl rfl, 
  List.forall_mem_cons.mpr ⟨ab_mg sb_t7 7 rfl rfl, 
  List.forall_mem_cons.mpr ⟨ab_mg sb_t7 9 rfl rfl, 
  List.forall_mem_cons.mpr ⟨ab_mg sb_t7 11 rfl rfl, 
  List.forall_mem_cons.mpr ⟨ab_mg sb_t7 13 rfl rfl, 
  List.forall_mem_cons.mpr ⟨ab_mg sb_t7 15 rfl rfl, 
  List.forall_mem_cons.mpr ⟨ab_mg sb_t7 17 rfl rfl, 
  List.forall_mem_cons.mpr ⟨ab_mg sb_t7 19 rfl rfl, 
  List.forall_mem_cons.mpr ⟨ab_mg sb_t7 21 rfl rfl, 
  List.forall_mem_cons.mpr ⟨ab_mg sb_t7 23 rfl rfl, 
  List.forall_mem_cons.mpr ⟨ab_mg sb_t7 25 rfl rfl, 
  List.forall_mem_cons.mpr ⟨ab_mg sb_t7 27 rfl rfl, 
  List.forall_mem_cons.mpr ⟨ab_mg sb_t7 29 rfl rfl, 
  List.forall_mem_cons.mpr ⟨ab_mg sb_t7 31 rfl rfl, 
  List.forall_mem_cons.mpr ⟨ab_mg sb_t7 33 rfl rfl, 
  List.forall_mem_cons.mpr ⟨ab_mg sb_t7 35 rfl rfl, 
  List.forall_mem_cons.mpr ⟨ab_mg sb_t7 37 rfl rfl, 
  List.forall_mem_cons.mpr ⟨ab_mg sb_t7 39 rfl rfl, 
  List.forall_mem_cons.mpr ⟨ab_mg sb_t7 41 rfl rfl, 
  List.forall_mem_cons.mpr ⟨ab_mg sb_t7 43 rfl rfl, 
  List.forall_mem_cons.mpr ⟨ab_mg sb_t7 45 rfl rfl, 
  List.forall_mem_cons.mpr ⟨ab_mg sb_t7 47 rfl rfl, 
  List.forall_mem_cons.mpr ⟨ab_mg sb_t7 49 rfl rfl, 
  List.forall_mem_cons.mpr ⟨ab_mg sb_t7 51 rfl rfl, 
  List.forall_mem_cons.mpr ⟨ab_mg sb_t7 53 rfl rfl, 
  List.forall_mem_cons.mpr ⟨ab_mg sb_t7 55 rfl rfl, 
  List.forall_mem_cons.mpr ⟨ab_mg sb_t7 57 rfl rfl, 
  List.forall_mem_cons.mpr ⟨ab_mg sb_t7 59 rfl rfl, 
  List.forall_mem_cons.mpr ⟨ab_mg sb_t7 61 rfl rfl, 
  List.forall_mem_cons.mpr ⟨ab_mg sb_t7 63 rfl rfl, 
  List.forall_mem_cons.mpr ⟨ab_mg sb_t7 65 rfl rfl, 
  List.forall_mem_cons.mpr ⟨ab_mg sb_t7 67 rfl rfl, 
  List.forall_mem_cons.mpr ⟨ab_mg sb_t7 69 rfl rfl, 
  List.forall_mem_cons.mpr ⟨ab_mg sb_t7 71 rfl rfl, 
  List.forall_mem_cons.mpr ⟨ab_mg sb_t7 73 rfl rfl, 
  List.forall_mem_cons.mpr ⟨ab_mg sb_t7 75 rfl rfl, 
  List.forall_mem_cons.mpr ⟨ab_mg sb_t7 77 rfl rfl, 
  List.forall_mem_cons.mpr ⟨ab_mg sb_t7 79 rfl rfl, 
  List.forall_mem_cons.mpr ⟨ab_mg sb_t7 81 rfl rfl, 
  List.forall_mem_cons.mpr ⟨ab_mg sb_t7 83 rfl rfl, 
  List.forall_mem_cons.mpr ⟨ab_mg sb_t7 85 rfl rfl, 
  List.forall_mem_cons.mpr ⟨ab_mg sb_t7 87 rfl rfl, 
  List.forall_mem_cons.mpr ⟨ab_mg sb_t7 89 rfl rfl, 
  List.forall_mem_cons.mpr ⟨ab_mg sb_t7 91 rfl rfl, 
  List.forall_mem_cons.mpr ⟨ab_mg sb_t7 93 rfl rfl, 
  List.forall_mem_cons.mpr ⟨ab_mg sb_t7 95 rfl rfl, 
  List.forall_mem_cons.mpr ⟨ab_mg sb_t7 97 rfl rfl, 
  List.forall_mem_cons.mpr ⟨ab_mg sb_t7 99 rfl rfl, 
  List.forall_mem_cons.mpr ⟨ab_mg sb_t7 101 rfl rfl, 
  List.forall_mem_cons.mpr ⟨ab_mg sb_t7 103 rfl rfl, 
  List.forall_mem_cons.mpr ⟨ab_mg sb_t7 105 rfl rfl, 
  List.forall_mem_cons.mpr ⟨ab_mg sb_t7 107 rfl rfl, 
  List.forall_mem_cons.mpr ⟨ab_mg sb_t7 109 rfl rfl, fun _ h => absurd h List.not_mem_nil⟩⟩⟩⟩⟩⟩⟩⟩⟩⟩⟩⟩⟩⟩⟩⟩⟩⟩⟩⟩⟩⟩⟩⟩⟩⟩⟩⟩⟩⟩⟩⟩⟩⟩⟩⟩⟩⟩⟩⟩⟩⟩⟩⟩⟩⟩⟩⟩⟩⟩⟩⟩⟩⟩⟩⟩⟩⟩⟩⟩⟩⟩⟩⟩⟩⟩⟩⟩⟩
set_option maxRecDepth 20000 in
theorem q0 : Cond.selects "SealFaces$Tokens" ⟨"SealFaces$Tokens", "scanOne", "(LSealFaces$Tape;I)I"⟩ ⟨"SealFaces$Tokens", "scanOne", "(LSealFaces$Tape;I)I"⟩ ∈ ab_good := ab_mg sb_p1 0 rfl rfl
set_option maxRecDepth 20000 in
theorem q1 : Cond.selects "SealFaces$Tokens" ⟨"SealFaces$Tokens", "scanLetters", "(LSealFaces$Tape;I)I"⟩ ⟨"SealFaces$Tokens", "scanLetters", "(LSealFaces$Tape;I)I"⟩ ∈ ab_good := ab_mg sb_p1 1 rfl rfl
set_option maxRecDepth 20000 in
theorem q2 : Cond.selects "SealFaces$Tokens" ⟨"SealFaces$Tokens", "kindOf", "(J)I"⟩ ⟨"SealFaces$Tokens", "kindOf", "(J)I"⟩ ∈ ab_good := ab_mg sb_p1 2 rfl rfl
set_option maxRecDepth 20000 in
theorem q3 : Cond.selects "SealFaces$Tokens" ⟨"SealFaces$Tokens", "add", "(IIJ)V"⟩ ⟨"SealFaces$Tokens", "add", "(IIJ)V"⟩ ∈ ab_good := ab_mg sb_p1 3 rfl rfl
set_option maxRecDepth 20000 in
theorem q4 : Cond.selects "SealFaces$Tokens" ⟨"SealFaces$Tokens", "scanDigits", "(LSealFaces$Tape;I)I"⟩ ⟨"SealFaces$Tokens", "scanDigits", "(LSealFaces$Tape;I)I"⟩ ∈ ab_good := ab_mg sb_p1 4 rfl rfl
set_option maxRecDepth 20000 in
theorem q5 : Cond.selects "SealFaces$Reader" ⟨"SealFaces$Reader", "parseTell", "(LSealFaces$Text;)V"⟩ ⟨"SealFaces$Reader", "parseTell", "(LSealFaces$Text;)V"⟩ ∈ ab_good := ab_mg sb_p1 5 rfl rfl
set_option maxRecDepth 20000 in
theorem q6 : Cond.selects "SealFaces$Reader" ⟨"SealFaces$Reader", "parseClerk", "(LSealFaces$Text;)V"⟩ ⟨"SealFaces$Reader", "parseClerk", "(LSealFaces$Text;)V"⟩ ∈ ab_good := ab_mg sb_p1 6 rfl rfl
set_option maxRecDepth 20000 in
theorem q7 : Cond.selects "SealFaces$Reader" ⟨"SealFaces$Reader", "fail", "(I)V"⟩ ⟨"SealFaces$Reader", "fail", "(I)V"⟩ ∈ ab_good := ab_mg sb_p1 7 rfl rfl
set_option maxRecDepth 20000 in
theorem q8 : Cond.selects "SealFaces$Reader" ⟨"SealFaces$Reader", "accept", "(I)Z"⟩ ⟨"SealFaces$Reader", "accept", "(I)Z"⟩ ∈ ab_good := ab_mg sb_p1 8 rfl rfl
set_option maxRecDepth 20000 in
theorem q9 : Cond.selects "SealFaces$Reader" ⟨"SealFaces$Reader", "acceptNewName", "(LSealFaces$Text;)J"⟩ ⟨"SealFaces$Reader", "acceptNewName", "(LSealFaces$Text;)J"⟩ ∈ ab_good := ab_mg sb_p1 9 rfl rfl
set_option maxRecDepth 20000 in
theorem q10 : Cond.selects "SealFaces$Reader" ⟨"SealFaces$Reader", "failLate", "(II)V"⟩ ⟨"SealFaces$Reader", "failLate", "(II)V"⟩ ∈ ab_good := ab_mg sb_p1 10 rfl rfl
set_option maxRecDepth 20000 in
theorem q11 : Cond.selects "SealFaces$Reader" ⟨"SealFaces$Reader", "acceptInt", "(I)I"⟩ ⟨"SealFaces$Reader", "acceptInt", "(I)I"⟩ ∈ ab_good := ab_mg sb_p1 11 rfl rfl
set_option maxRecDepth 20000 in
theorem q12 : Cond.selects "SealFaces$Reader" ⟨"SealFaces$Reader", "acceptLevels", "([II)V"⟩ ⟨"SealFaces$Reader", "acceptLevels", "([II)V"⟩ ∈ ab_good := ab_mg sb_p1 12 rfl rfl
set_option maxRecDepth 20000 in
theorem q13 : Cond.selects "SealFaces$Reader" ⟨"SealFaces$Reader", "parseDeed", "(LSealFaces$Text;)V"⟩ ⟨"SealFaces$Reader", "parseDeed", "(LSealFaces$Text;)V"⟩ ∈ ab_good := ab_mg sb_p1 13 rfl rfl
set_option maxRecDepth 20000 in
theorem q14 : Cond.selects "SealFaces$Reader" ⟨"SealFaces$Reader", "parseTreaty", "(LSealFaces$Text;)V"⟩ ⟨"SealFaces$Reader", "parseTreaty", "(LSealFaces$Text;)V"⟩ ∈ ab_good := ab_mg sb_p1 14 rfl rfl
set_option maxRecDepth 20000 in
theorem q15 : Cond.selects "SealFaces$Reader" ⟨"SealFaces$Reader", "acceptDeed", "(LSealFaces$Text;)I"⟩ ⟨"SealFaces$Reader", "acceptDeed", "(LSealFaces$Text;)I"⟩ ∈ ab_good := ab_mg sb_p1 15 rfl rfl
set_option maxRecDepth 20000 in
theorem q16 : Cond.selects "SealFaces$Reader" ⟨"SealFaces$Reader", "parseLaw", "(LSealFaces$Law;)V"⟩ ⟨"SealFaces$Reader", "parseLaw", "(LSealFaces$Law;)V"⟩ ∈ ab_good := ab_mg sb_p2 0 rfl rfl
set_option maxRecDepth 20000 in
theorem q17 : Cond.selects "SealFaces$Reader" ⟨"SealFaces$Reader", "parseSum", "(LSealFaces$Law;I)V"⟩ ⟨"SealFaces$Reader", "parseSum", "(LSealFaces$Law;I)V"⟩ ∈ ab_good := ab_mg sb_p2 1 rfl rfl
set_option maxRecDepth 20000 in
theorem q18 : Cond.selects "SealFaces$Reader" ⟨"SealFaces$Reader", "parseProduct", "(LSealFaces$Law;I)V"⟩ ⟨"SealFaces$Reader", "parseProduct", "(LSealFaces$Law;I)V"⟩ ∈ ab_good := ab_mg sb_p2 2 rfl rfl
set_option maxRecDepth 20000 in
theorem q19 : Cond.selects "SealFaces$Reader" ⟨"SealFaces$Reader", "parseUnit", "(LSealFaces$Law;I)V"⟩ ⟨"SealFaces$Reader", "parseUnit", "(LSealFaces$Law;I)V"⟩ ∈ ab_good := ab_mg sb_p2 3 rfl rfl
set_option maxRecDepth 20000 in
theorem q20 : Cond.selects "SealFaces$Hall" ⟨"SealFaces$Hall", "faded", "(IIII)I"⟩ ⟨"SealFaces$Hall", "faded", "(IIII)I"⟩ ∈ ab_good := ab_mg sb_p2 4 rfl rfl
set_option maxRecDepth 20000 in
theorem q21 : Cond.selects "SealFaces$Law" ⟨"SealFaces$Law", "partOf", "(I[I)I"⟩ ⟨"SealFaces$Law", "partOf", "(I[I)I"⟩ ∈ ab_good := ab_mg sb_p2 5 rfl rfl
set_option maxRecDepth 20000 in
theorem q22 : Cond.selects "SealFaces$Law" ⟨"SealFaces$Law", "joined", "(III)I"⟩ ⟨"SealFaces$Law", "joined", "(III)I"⟩ ∈ ab_good := ab_mg sb_p2 6 rfl rfl
set_option maxRecDepth 20000 in
theorem q23 : Cond.selects "SealFaces$Hall" ⟨"SealFaces$Hall", "grown", "(IIIII)I"⟩ ⟨"SealFaces$Hall", "grown", "(IIIII)I"⟩ ∈ ab_good := ab_mg sb_p2 7 rfl rfl
set_option maxRecDepth 20000 in
theorem q24 : Cond.selects "SealFaces$Plan" ⟨"SealFaces$Plan", "prepareClerk", "(II)V"⟩ ⟨"SealFaces$Plan", "prepareClerk", "(II)V"⟩ ∈ ab_good := ab_mg sb_p2 8 rfl rfl
set_option maxRecDepth 20000 in
theorem q25 : Cond.selects "SealFaces$Plan" ⟨"SealFaces$Plan", "canSealLast", "(IIII)Z"⟩ ⟨"SealFaces$Plan", "canSealLast", "(IIII)Z"⟩ ∈ ab_good := ab_mg sb_p2 9 rfl rfl
set_option maxRecDepth 20000 in
theorem q26 : Cond.selects "SealFaces$Plan" ⟨"SealFaces$Plan", "scoreOf", "(III)I"⟩ ⟨"SealFaces$Plan", "scoreOf", "(III)I"⟩ ∈ ab_good := ab_mg sb_p2 10 rfl rfl
set_option maxRecDepth 20000 in
theorem q27 : Cond.selects "SealFaces$Plan" ⟨"SealFaces$Plan", "bestScore", "()I"⟩ ⟨"SealFaces$Plan", "bestScore", "()I"⟩ ∈ ab_good := ab_mg sb_p2 11 rfl rfl
set_option maxRecDepth 20000 in
theorem q28 : Cond.selects "SealFaces$Plan" ⟨"SealFaces$Plan", "joinClerk", "(II)V"⟩ ⟨"SealFaces$Plan", "joinClerk", "(II)V"⟩ ∈ ab_good := ab_mg sb_p2 12 rfl rfl
set_option maxRecDepth 20000 in
theorem q29 : Cond.selects "SealFaces$Choices" ⟨"SealFaces$Choices", "mostWith", "(II)I"⟩ ⟨"SealFaces$Choices", "mostWith", "(II)I"⟩ ∈ ab_good := ab_mg sb_p2 13 rfl rfl
set_option maxRecDepth 20000 in
theorem q30 : Cond.selects "SealFaces$Choices" ⟨"SealFaces$Choices", "mostFrom", "(II)I"⟩ ⟨"SealFaces$Choices", "mostFrom", "(II)I"⟩ ∈ ab_good := ab_mg sb_p2 14 rfl rfl
set_option maxRecDepth 20000 in
theorem q31 : Cond.selects "SealFaces$Choices" ⟨"SealFaces$Choices", "lowestFor", "(II)I"⟩ ⟨"SealFaces$Choices", "lowestFor", "(II)I"⟩ ∈ ab_good := ab_mg sb_p2 15 rfl rfl
set_option maxRecDepth 20000 in
theorem q32 : Cond.selects "SealFaces$Choices" ⟨"SealFaces$Choices", "closedDeeds", "()I"⟩ ⟨"SealFaces$Choices", "closedDeeds", "()I"⟩ ∈ ab_good := ab_mg sb_p3 0 rfl rfl
set_option maxRecDepth 20000 in
theorem q33 : Cond.selects "SealFaces$Choices" ⟨"SealFaces$Choices", "gainBy", "(II)I"⟩ ⟨"SealFaces$Choices", "gainBy", "(II)I"⟩ ∈ ab_good := ab_mg sb_p3 1 rfl rfl
set_option maxRecDepth 20000 in
theorem q34 : Cond.selects "SealFaces$Choices" ⟨"SealFaces$Choices", "breakAll", "(I)Z"⟩ ⟨"SealFaces$Choices", "breakAll", "(I)Z"⟩ ∈ ab_good := ab_mg sb_p3 2 rfl rfl
set_option maxRecDepth 20000 in
theorem q35 : Cond.selects "SealFaces$Choices" ⟨"SealFaces$Choices", "isSealedByOne", "(II)Z"⟩ ⟨"SealFaces$Choices", "isSealedByOne", "(II)Z"⟩ ∈ ab_good := ab_mg sb_p3 3 rfl rfl
set_option maxRecDepth 20000 in
theorem q36 : Cond.selects "SealFaces" ⟨"SealFaces", "suspects", "(II)I"⟩ ⟨"SealFaces", "suspects", "(II)I"⟩ ∈ ab_good := ab_mg sb_p3 4 rfl rfl
set_option maxRecDepth 20000 in
theorem q37 : Cond.selects "SealFaces" ⟨"SealFaces", "leftAtWorst", "(IIII)I"⟩ ⟨"SealFaces", "leftAtWorst", "(IIII)I"⟩ ∈ ab_good := ab_mg sb_p3 5 rfl rfl
set_option maxRecDepth 20000 in
theorem q38 : Cond.selects "SealFacesModel" ⟨"SealFacesModel", "plain", "(I)V"⟩ ⟨"SealFacesModel", "plain", "(I)V"⟩ ∈ ab_good := ab_mg sb_p3 6 rfl rfl
set_option maxRecDepth 20000 in
theorem q39 : Cond.selects "SealFacesModel" ⟨"SealFacesModel", "begins", "()V"⟩ ⟨"SealFacesModel", "begins", "()V"⟩ ∈ ab_good := ab_mg sb_p3 7 rfl rfl
set_option maxRecDepth 20000 in
theorem q40 : Cond.selects "SealFacesModel" ⟨"SealFacesModel", "firstLevel", "(II)I"⟩ ⟨"SealFacesModel", "firstLevel", "(II)I"⟩ ∈ ab_good := ab_mg sb_p3 8 rfl rfl
set_option maxRecDepth 20000 in
theorem q41 : Cond.selects "SealFacesModel" ⟨"SealFacesModel", "keepsRow", "()V"⟩ ⟨"SealFacesModel", "keepsRow", "()V"⟩ ∈ ab_good := ab_mg sb_p3 9 rfl rfl
set_option maxRecDepth 20000 in
theorem q42 : Cond.selects "SealFacesModel" ⟨"SealFacesModel", "lays", "(I)V"⟩ ⟨"SealFacesModel", "lays", "(I)V"⟩ ∈ ab_good := ab_mg sb_p3 10 rfl rfl
set_option maxRecDepth 20000 in
theorem q43 : Cond.selects "SealFacesModel" ⟨"SealFacesModel", "cut", "()V"⟩ ⟨"SealFacesModel", "cut", "()V"⟩ ∈ ab_good := ab_mg sb_p3 11 rfl rfl
set_option maxRecDepth 20000 in
theorem q44 : Cond.selects "SealFacesModel" ⟨"SealFacesModel", "byteAt", "(I)I"⟩ ⟨"SealFacesModel", "byteAt", "(I)I"⟩ ∈ ab_good := ab_mg sb_p3 12 rfl rfl
set_option maxRecDepth 20000 in
theorem q45 : Cond.selects "SealFacesModel" ⟨"SealFacesModel", "token", "(IIIJ)V"⟩ ⟨"SealFacesModel", "token", "(IIIJ)V"⟩ ∈ ab_good := ab_mg sb_p3 13 rfl rfl
set_option maxRecDepth 20000 in
theorem q46 : Cond.selects "SealFacesModel" ⟨"SealFacesModel", "sign", "(III)I"⟩ ⟨"SealFacesModel", "sign", "(III)I"⟩ ∈ ab_good := ab_mg sb_p3 14 rfl rfl
set_option maxRecDepth 20000 in
theorem q47 : Cond.selects "SealFacesModel" ⟨"SealFacesModel", "is", "(I)Z"⟩ ⟨"SealFacesModel", "is", "(I)Z"⟩ ∈ ab_good := ab_mg sb_p3 15 rfl rfl
set_option maxRecDepth 20000 in
theorem q48 : Cond.selects "SealFacesModel" ⟨"SealFacesModel", "tellOne", "()V"⟩ ⟨"SealFacesModel", "tellOne", "()V"⟩ ∈ ab_good := ab_mg sb_p4 0 rfl rfl
set_option maxRecDepth 20000 in
theorem q49 : Cond.selects "SealFacesModel" ⟨"SealFacesModel", "roomFor", "(II)V"⟩ ⟨"SealFacesModel", "roomFor", "(II)V"⟩ ∈ ab_good := ab_mg sb_p4 1 rfl rfl
set_option maxRecDepth 20000 in
theorem q50 : Cond.selects "SealFacesModel" ⟨"SealFacesModel", "fail", "(I)V"⟩ ⟨"SealFacesModel", "fail", "(I)V"⟩ ∈ ab_good := ab_mg sb_p4 2 rfl rfl
set_option maxRecDepth 20000 in
theorem q51 : Cond.selects "SealFacesModel" ⟨"SealFacesModel", "goesOn", "()V"⟩ ⟨"SealFacesModel", "goesOn", "()V"⟩ ∈ ab_good := ab_mg sb_p4 3 rfl rfl
set_option maxRecDepth 20000 in
theorem q52 : Cond.selects "SealFacesModel" ⟨"SealFacesModel", "named", "()I"⟩ ⟨"SealFacesModel", "named", "()I"⟩ ∈ ab_good := ab_mg sb_p4 4 rfl rfl
set_option maxRecDepth 20000 in
theorem q53 : Cond.selects "SealFacesModel" ⟨"SealFacesModel", "must", "(I)V"⟩ ⟨"SealFacesModel", "must", "(I)V"⟩ ∈ ab_good := ab_mg sb_p4 5 rfl rfl
set_option maxRecDepth 20000 in
theorem q54 : Cond.selects "SealFacesModel" ⟨"SealFacesModel", "wrong", "(II)V"⟩ ⟨"SealFacesModel", "wrong", "(II)V"⟩ ∈ ab_good := ab_mg sb_p4 6 rfl rfl
set_option maxRecDepth 20000 in
theorem q55 : Cond.selects "SealFacesModel" ⟨"SealFacesModel", "bounded", "(I)I"⟩ ⟨"SealFacesModel", "bounded", "(I)I"⟩ ∈ ab_good := ab_mg sb_p4 7 rfl rfl
set_option maxRecDepth 20000 in
theorem q56 : Cond.selects "SealFacesModel" ⟨"SealFacesModel", "endsName", "(II)V"⟩ ⟨"SealFacesModel", "endsName", "(II)V"⟩ ∈ ab_good := ab_mg sb_p4 8 rfl rfl
set_option maxRecDepth 20000 in
theorem q57 : Cond.selects "SealFacesModel" ⟨"SealFacesModel", "tellTreaty", "()V"⟩ ⟨"SealFacesModel", "tellTreaty", "()V"⟩ ∈ ab_good := ab_mg sb_p4 9 rfl rfl
set_option maxRecDepth 20000 in
theorem q58 : Cond.selects "SealFacesModel" ⟨"SealFacesModel", "known", "()I"⟩ ⟨"SealFacesModel", "known", "()I"⟩ ∈ ab_good := ab_mg sb_p4 10 rfl rfl
set_option maxRecDepth 20000 in
theorem q59 : Cond.selects "SealFacesModel" ⟨"SealFacesModel", "toldInt", "(I)I"⟩ ⟨"SealFacesModel", "toldInt", "(I)I"⟩ ∈ ab_good := ab_mg sb_p4 11 rfl rfl
set_option maxRecDepth 20000 in
theorem q60 : Cond.selects "SealFacesModel" ⟨"SealFacesModel", "tellLaw", "(I)V"⟩ ⟨"SealFacesModel", "tellLaw", "(I)V"⟩ ∈ ab_good := ab_mg sb_p4 12 rfl rfl
set_option maxRecDepth 20000 in
theorem q61 : Cond.selects "SealFacesModel" ⟨"SealFacesModel", "expression", "()V"⟩ ⟨"SealFacesModel", "expression", "()V"⟩ ∈ ab_good := ab_mg sb_p4 13 rfl rfl
set_option maxRecDepth 20000 in
theorem q62 : Cond.selects "SealFacesModel" ⟨"SealFacesModel", "unit", "()V"⟩ ⟨"SealFacesModel", "unit", "()V"⟩ ∈ ab_good := ab_mg sb_p4 14 rfl rfl
set_option maxRecDepth 20000 in
theorem q63 : Cond.selects "SealFacesModel" ⟨"SealFacesModel", "emit", "(II)V"⟩ ⟨"SealFacesModel", "emit", "(II)V"⟩ ∈ ab_good := ab_mg sb_p4 15 rfl rfl
set_option maxRecDepth 20000 in
theorem q64 : Cond.selects "SealFacesModel" ⟨"SealFacesModel", "comesOut", "(Z)V"⟩ ⟨"SealFacesModel", "comesOut", "(Z)V"⟩ ∈ ab_good := ab_mg sb_p5 0 rfl rfl
set_option maxRecDepth 20000 in
theorem q65 : Cond.selects "SealFacesModel" ⟨"SealFacesModel", "term", "()V"⟩ ⟨"SealFacesModel", "term", "()V"⟩ ∈ ab_good := ab_mg sb_p5 1 rfl rfl
set_option maxRecDepth 20000 in
theorem q66 : Cond.selects "SealFacesModel" ⟨"SealFacesModel", "isClerk", "(I)Z"⟩ ⟨"SealFacesModel", "isClerk", "(I)Z"⟩ ∈ ab_good := ab_mg sb_p5 2 rfl rfl
set_option maxRecDepth 20000 in
theorem q67 : Cond.selects "SealFacesModel" ⟨"SealFacesModel", "copies", "()V"⟩ ⟨"SealFacesModel", "copies", "()V"⟩ ∈ ab_good := ab_mg sb_p5 3 rfl rfl
set_option maxRecDepth 20000 in
theorem q68 : Cond.selects "SealFacesModel" ⟨"SealFacesModel", "ageNow", "(I)I"⟩ ⟨"SealFacesModel", "ageNow", "(I)I"⟩ ∈ ab_good := ab_mg sb_p5 4 rfl rfl
set_option maxRecDepth 20000 in
theorem q69 : Cond.selects "SealFacesModel" ⟨"SealFacesModel", "sealedBits", "(I)I"⟩ ⟨"SealFacesModel", "sealedBits", "(I)I"⟩ ∈ ab_good := ab_mg sb_p5 5 rfl rfl
set_option maxRecDepth 20000 in
theorem q70 : Cond.selects "SealFacesModel" ⟨"SealFacesModel", "isDeed", "(I)Z"⟩ ⟨"SealFacesModel", "isDeed", "(I)Z"⟩ ∈ ab_good := ab_mg sb_p5 6 rfl rfl
set_option maxRecDepth 20000 in
theorem q71 : Cond.selects "SealFacesModel" ⟨"SealFacesModel", "needAt", "(II)I"⟩ ⟨"SealFacesModel", "needAt", "(II)I"⟩ ∈ ab_good := ab_mg sb_p5 7 rfl rfl
set_option maxRecDepth 20000 in
theorem q72 : Cond.selects "SealFacesModel" ⟨"SealFacesModel", "worthAt", "(I)I"⟩ ⟨"SealFacesModel", "worthAt", "(I)I"⟩ ∈ ab_good := ab_mg sb_p5 8 rfl rfl
set_option maxRecDepth 20000 in
theorem q73 : Cond.selects "SealFacesModel" ⟨"SealFacesModel", "bindsOf", "(I)I"⟩ ⟨"SealFacesModel", "bindsOf", "(I)I"⟩ ∈ ab_good := ab_mg sb_p5 9 rfl rfl
set_option maxRecDepth 20000 in
theorem q74 : Cond.selects "SealFacesModel" ⟨"SealFacesModel", "looksBy", "(I)V"⟩ ⟨"SealFacesModel", "looksBy", "(I)V"⟩ ∈ ab_good := ab_mg sb_p5 10 rfl rfl
set_option maxRecDepth 20000 in
theorem q75 : Cond.selects "SealFacesModel" ⟨"SealFacesModel", "looks", "()V"⟩ ⟨"SealFacesModel", "looks", "()V"⟩ ∈ ab_good := ab_mg sb_p5 11 rfl rfl
set_option maxRecDepth 20000 in
theorem q76 : Cond.selects "SealFacesModel" ⟨"SealFacesModel", "printSum", "(I)I"⟩ ⟨"SealFacesModel", "printSum", "(I)I"⟩ ∈ ab_good := ab_mg sb_p5 12 rfl rfl
set_option maxRecDepth 20000 in
theorem q77 : Cond.selects "SealFacesModel" ⟨"SealFacesModel", "lawTells", "(II)I"⟩ ⟨"SealFacesModel", "lawTells", "(II)I"⟩ ∈ ab_good := ab_mg sb_p5 13 rfl rfl
set_option maxRecDepth 20000 in
theorem q78 : Cond.selects "SealFacesModel" ⟨"SealFacesModel", "termOf", "(II)I"⟩ ⟨"SealFacesModel", "termOf", "(II)I"⟩ ∈ ab_good := ab_mg sb_p5 14 rfl rfl
set_option maxRecDepth 20000 in
theorem q79 : Cond.selects "SealFacesModel" ⟨"SealFacesModel", "doesHold", "(I)Z"⟩ ⟨"SealFacesModel", "doesHold", "(I)Z"⟩ ∈ ab_good := ab_mg sb_p5 15 rfl rfl
set_option maxRecDepth 20000 in
theorem q80 : Cond.selects "SealFacesModel" ⟨"SealFacesModel", "takesOf", "(III)I"⟩ ⟨"SealFacesModel", "takesOf", "(III)I"⟩ ∈ ab_good := ab_mg sb_p6 0 rfl rfl
set_option maxRecDepth 20000 in
theorem q81 : Cond.selects "SealFacesModel" ⟨"SealFacesModel", "canSeal", "(II)Z"⟩ ⟨"SealFacesModel", "canSeal", "(II)Z"⟩ ∈ ab_good := ab_mg sb_p6 1 rfl rfl
set_option maxRecDepth 20000 in
theorem q82 : Cond.selects "SealFacesModel" ⟨"SealFacesModel", "seals", "(II)V"⟩ ⟨"SealFacesModel", "seals", "(II)V"⟩ ∈ ab_good := ab_mg sb_p6 2 rfl rfl
set_option maxRecDepth 20000 in
theorem q83 : Cond.selects "SealFacesModel" ⟨"SealFacesModel", "records", "()V"⟩ ⟨"SealFacesModel", "records", "()V"⟩ ∈ ab_good := ab_mg sb_p6 3 rfl rfl
set_option maxRecDepth 20000 in
theorem q84 : Cond.selects "SealFacesModel" ⟨"SealFacesModel", "isOpen", "(I)Z"⟩ ⟨"SealFacesModel", "isOpen", "(I)Z"⟩ ∈ ab_good := ab_mg sb_p6 4 rfl rfl
set_option maxRecDepth 20000 in
theorem q85 : Cond.selects "SealFacesModel" ⟨"SealFacesModel", "becomes", "(II)V"⟩ ⟨"SealFacesModel", "becomes", "(II)V"⟩ ∈ ab_good := ab_mg sb_p6 5 rfl rfl
set_option maxRecDepth 20000 in
theorem q86 : Cond.selects "SealFacesModel" ⟨"SealFacesModel", "goes", "(I)V"⟩ ⟨"SealFacesModel", "goes", "(I)V"⟩ ∈ ab_good := ab_mg sb_p6 6 rfl rfl
set_option maxRecDepth 20000 in
theorem q87 : Cond.selects "SealFacesModel" ⟨"SealFacesModel", "yearGoes", "()V"⟩ ⟨"SealFacesModel", "yearGoes", "()V"⟩ ∈ ab_good := ab_mg sb_p6 7 rfl rfl
set_option maxRecDepth 20000 in
theorem q88 : Cond.selects "SealFacesModel" ⟨"SealFacesModel", "growsOf", "(II)I"⟩ ⟨"SealFacesModel", "growsOf", "(II)I"⟩ ∈ ab_good := ab_mg sb_p6 8 rfl rfl
set_option maxRecDepth 20000 in
theorem q89 : Cond.selects "SealFacesModel" ⟨"SealFacesModel", "fadesOf", "(II)I"⟩ ⟨"SealFacesModel", "fadesOf", "(II)I"⟩ ∈ ab_good := ab_mg sb_p6 9 rfl rfl
set_option maxRecDepth 20000 in
theorem q90 : Cond.selects "SealFacesModel" ⟨"SealFacesModel", "fillsAll", "()I"⟩ ⟨"SealFacesModel", "fillsAll", "()I"⟩ ∈ ab_good := ab_mg sb_p6 10 rfl rfl
set_option maxRecDepth 20000 in
theorem q91 : Cond.selects "SealFacesModel" ⟨"SealFacesModel", "fillsOpen", "()V"⟩ ⟨"SealFacesModel", "fillsOpen", "()V"⟩ ∈ ab_good := ab_mg sb_p6 11 rfl rfl
set_option maxRecDepth 20000 in
theorem q92 : Cond.selects "SealFacesModel" ⟨"SealFacesModel", "goesBy", "(II)I"⟩ ⟨"SealFacesModel", "goesBy", "(II)I"⟩ ∈ ab_good := ab_mg sb_p6 12 rfl rfl
set_option maxRecDepth 20000 in
theorem q93 : Cond.selects "SealFacesModel" ⟨"SealFacesModel", "fillsMatch", "()V"⟩ ⟨"SealFacesModel", "fillsMatch", "()V"⟩ ∈ ab_good := ab_mg sb_p6 13 rfl rfl
set_option maxRecDepth 20000 in
theorem q94 : Cond.selects "SealFacesModel" ⟨"SealFacesModel", "mayHave", "(III)Z"⟩ ⟨"SealFacesModel", "mayHave", "(III)Z"⟩ ∈ ab_good := ab_mg sb_p6 14 rfl rfl
set_option maxRecDepth 20000 in
theorem q95 : Cond.selects "SealFacesModel" ⟨"SealFacesModel", "matchWith", "(III)I"⟩ ⟨"SealFacesModel", "matchWith", "(III)I"⟩ ∈ ab_good := ab_mg sb_p6 15 rfl rfl
set_option maxRecDepth 20000 in
theorem q96 : Cond.selects "SealFacesModel" ⟨"SealFacesModel", "weakOf", "(I)I"⟩ ⟨"SealFacesModel", "weakOf", "(I)I"⟩ ∈ ab_good := ab_mg sb_p7 0 rfl rfl
set_option maxRecDepth 20000 in
theorem q97 : Cond.selects "SealFacesModel" ⟨"SealFacesModel", "handsOf", "(I)I"⟩ ⟨"SealFacesModel", "handsOf", "(I)I"⟩ ∈ ab_good := ab_mg sb_p7 1 rfl rfl
set_option maxRecDepth 20000 in
theorem q98 : Cond.selects "SealFacesModel" ⟨"SealFacesModel", "workOf", "(I)I"⟩ ⟨"SealFacesModel", "workOf", "(I)I"⟩ ∈ ab_good := ab_mg sb_p7 2 rfl rfl
set_option maxRecDepth 20000 in
theorem q99 : Cond.selects "SealFacesModel" ⟨"SealFacesModel", "gameBest", "(I)I"⟩ ⟨"SealFacesModel", "gameBest", "(I)I"⟩ ∈ ab_good := ab_mg sb_p7 3 rfl rfl
set_option maxRecDepth 20000 in
theorem q100 : Cond.selects "SealFacesModel" ⟨"SealFacesModel", "gameWith", "(II)I"⟩ ⟨"SealFacesModel", "gameWith", "(II)I"⟩ ∈ ab_good := ab_mg sb_p7 4 rfl rfl
set_option maxRecDepth 20000 in
theorem q101 : Cond.selects "SealFacesModel" ⟨"SealFacesModel", "apartOf", "(II)I"⟩ ⟨"SealFacesModel", "apartOf", "(II)I"⟩ ∈ ab_good := ab_mg sb_p7 5 rfl rfl
set_option maxRecDepth 20000 in
theorem q102 : Cond.selects "SealFacesModel" ⟨"SealFacesModel", "levelSum", "(I)I"⟩ ⟨"SealFacesModel", "levelSum", "(I)I"⟩ ∈ ab_good := ab_mg sb_p7 6 rfl rfl
set_option maxRecDepth 20000 in
theorem q103 : Cond.selects "SealFacesModel" ⟨"SealFacesModel", "isHealed", "(I)Z"⟩ ⟨"SealFacesModel", "isHealed", "(I)Z"⟩ ∈ ab_good := ab_mg sb_p7 7 rfl rfl
set_option maxRecDepth 20000 in
theorem q104 : Cond.selects "SealFacesModel" ⟨"SealFacesModel", "readsOf", "(I)I"⟩ ⟨"SealFacesModel", "readsOf", "(I)I"⟩ ∈ ab_good := ab_mg sb_p7 8 rfl rfl
set_option maxRecDepth 20000 in
theorem q105 : Cond.selects "SealFacesModel" ⟨"SealFacesModel", "lotOf", "(I)I"⟩ ⟨"SealFacesModel", "lotOf", "(I)I"⟩ ∈ ab_good := ab_mg sb_p7 9 rfl rfl
set_option maxRecDepth 20000 in
theorem q106 : Cond.selects "SealFacesModel" ⟨"SealFacesModel", "bindsAll", "()I"⟩ ⟨"SealFacesModel", "bindsAll", "()I"⟩ ∈ ab_good := ab_mg sb_p7 10 rfl rfl
set_option maxRecDepth 20000 in
theorem q107 : Cond.selects "SealFacesModel" ⟨"SealFacesModel", "whoBits", "(II)I"⟩ ⟨"SealFacesModel", "whoBits", "(II)I"⟩ ∈ ab_good := ab_mg sb_p7 11 rfl rfl
set_option maxRecDepth 20000 in
theorem q108 : Cond.selects "SealFacesModel" ⟨"SealFacesModel", "doesFit", "(III)Z"⟩ ⟨"SealFacesModel", "doesFit", "(III)Z"⟩ ∈ ab_good := ab_mg sb_p7 12 rfl rfl
set_option maxRecDepth 20000 in
theorem q109 : Cond.selects "SealFacesModel" ⟨"SealFacesModel", "inState", "(I)I"⟩ ⟨"SealFacesModel", "inState", "(I)I"⟩ ∈ ab_good := ab_mg sb_p7 13 rfl rfl
set_option maxRecDepth 20000 in
theorem q110 : Cond.selects "SealFacesModel" ⟨"SealFacesModel", "sumNow", "(II)I"⟩ ⟨"SealFacesModel", "sumNow", "(II)I"⟩ ∈ ab_good := ab_mg sb_p7 14 rfl rfl
set_option maxRecDepth 20000 in
theorem q112 : Cond.initialized "SealFaces" ∈ ab_good := ab_mg sb_t1 1 rfl rfl
set_option maxRecDepth 20000 in
theorem q113 : Cond.initialized "SealFaces$Tape" ∈ ab_good := ab_mg sb_t1 2 rfl rfl
set_option maxRecDepth 20000 in
theorem q114 : Cond.initialized "SealFaces$Tokens" ∈ ab_good := ab_mg sb_t1 3 rfl rfl
set_option maxRecDepth 20000 in
theorem q115 : Cond.initialized "java/lang/String" ∈ ab_good := ab_mg sb_t1 4 rfl rfl
set_option maxRecDepth 20000 in
theorem q116 : Cond.initialized "java/lang/StringLatin1" ∈ ab_good := ab_mg sb_t1 5 rfl rfl
set_option maxRecDepth 20000 in
theorem q117 : Cond.initialized "jdk/internal/util/Preconditions" ∈ ab_good := ab_mg sb_t1 6 rfl rfl
set_option maxRecDepth 20000 in
theorem q119 : Cond.initialized "SealFaces$Reader" ∈ ab_good := ab_mg sb_t1 8 rfl rfl
set_option maxRecDepth 20000 in
theorem q120 : Cond.initialized "SealFaces$Hall" ∈ ab_good := ab_mg sb_t1 9 rfl rfl
set_option maxRecDepth 20000 in
theorem q121 : Cond.initialized "SealFaces$Scene" ∈ ab_good := ab_mg sb_t1 10 rfl rfl
set_option maxRecDepth 20000 in
theorem q122 : Cond.initialized "SealFaces$Text" ∈ ab_good := ab_mg sb_t1 11 rfl rfl
set_option maxRecDepth 20000 in
theorem q123 : Cond.initialized "SealFaces$Law" ∈ ab_good := ab_mg sb_t1 12 rfl rfl
set_option maxRecDepth 20000 in
theorem q124 : Cond.initialized "SealFaces$Memory" ∈ ab_good := ab_mg sb_t1 13 rfl rfl
set_option maxRecDepth 20000 in
theorem q125 : Cond.initialized "SealFaces$Told" ∈ ab_good := ab_mg sb_t1 14 rfl rfl
set_option maxRecDepth 20000 in
theorem q126 : Cond.initialized "SealFaces$Plan" ∈ ab_good := ab_mg sb_t1 15 rfl rfl
set_option maxRecDepth 20000 in
theorem q127 : Cond.initialized "SealFaces$Choices" ∈ ab_good := ab_mg sb_t1 16 rfl rfl
set_option maxRecDepth 20000 in
theorem q128 : Cond.initialized "SealFacesModel" ∈ ab_good := ab_mg sb_t1 17 rfl rfl
set_option maxRecDepth 20000 in
theorem q129 : Cond.initialized "java/lang/Math" ∈ ab_good := ab_mg sb_t1 18 rfl rfl
set_option maxRecDepth 20000 in
theorem q131 : Cond.initialized "java/lang/Integer" ∈ ab_good := ab_mg sb_t1 20 rfl rfl
set_option maxRecDepth 20000 in
theorem q132 : Cond.initialized "java/util/Arrays" ∈ ab_good := ab_mg sb_t1 21 rfl rfl
set_option maxRecDepth 20000 in
theorem q133 : Cond.initialized "java/lang/System" ∈ ab_good := ab_mg sb_t1 22 rfl rfl
set_option maxRecDepth 20000 in
theorem q134 : Cond.classLink "SealFacesLaw" 7 "SealFaces" ∈ ab_good := ab_mg sb_t1 23 rfl rfl
set_option maxRecDepth 20000 in
theorem q135 : Cond.instantiable "SealFaces" 10 ∈ ab_good := ab_mg sb_t1 24 rfl rfl
set_option maxRecDepth 20000 in
theorem q136 : Cond.methodLink "SealFacesLaw" 9 ⟨"SealFaces", "<init>", "()V"⟩ ∈ ab_good := ab_mg sb_t1 25 rfl rfl
set_option maxRecDepth 20000 in
theorem q137 : Cond.instanceMethod ⟨"SealFaces", "<init>", "()V"⟩ ∈ ab_good := ab_mg sb_t1 26 rfl rfl
set_option maxRecDepth 20000 in
theorem q138 : Cond.code ⟨"SealFaces", "<init>", "()V"⟩ prog_1_method_1_code 1 none ∈ ab_good := ab_mg sb_t1 27 rfl rfl
set_option maxRecDepth 20000 in
theorem q139 : Cond.methodLink "SealFaces" 3 ⟨"java/lang/Object", "<init>", "()V"⟩ ∈ ab_good := ab_mg sb_t1 28 rfl rfl
set_option maxRecDepth 20000 in
theorem q140 : Cond.instanceMethod ⟨"java/lang/Object", "<init>", "()V"⟩ ∈ ab_good := ab_mg sb_t1 29 rfl rfl
set_option maxRecDepth 20000 in
theorem q141 : Cond.code ⟨"java/lang/Object", "<init>", "()V"⟩ object_method_1_code 1 none ∈ ab_good := ab_mg sb_t1 30 rfl rfl
set_option maxRecDepth 20000 in
theorem q142 : Cond.classLink "SealFaces" 9 "SealFaces$Tape" ∈ ab_good := ab_mg sb_t1 31 rfl rfl
set_option maxRecDepth 20000 in
theorem q143 : Cond.instantiable "SealFaces$Tape" 2 ∈ ab_good := ab_mg sb_t1 32 rfl rfl
set_option maxRecDepth 20000 in
theorem q144 : Cond.methodLinkNest "SealFaces" 11 ⟨"SealFaces$Tape", "<init>", "()V"⟩ "SealFaces" ∈ ab_nest := ab_mn sb_t1 33 rfl rfl
set_option maxRecDepth 20000 in
theorem q145 : Cond.instanceMethod ⟨"SealFaces$Tape", "<init>", "()V"⟩ ∈ ab_good := ab_mg sb_t1 34 rfl rfl
set_option maxRecDepth 20000 in
theorem q146 : Cond.code ⟨"SealFaces$Tape", "<init>", "()V"⟩ prog_9_method_1_code 1 none ∈ ab_good := ab_mg sb_t1 35 rfl rfl
set_option maxRecDepth 20000 in
theorem q147 : Cond.methodLink "SealFaces$Tape" 3 ⟨"java/lang/Object", "<init>", "()V"⟩ ∈ ab_good := ab_mg sb_t1 36 rfl rfl
set_option maxRecDepth 20000 in
theorem q148 : Cond.fieldLink "SealFaces$Tape" 9 "SealFaces$Tape" "bytes" "[B" ∈ ab_good := ab_mg sb_t1 37 rfl rfl
set_option maxRecDepth 20000 in
theorem q149 : Cond.fieldLink "SealFaces$Tape" 15 "SealFaces$Tape" "length" "I" ∈ ab_good := ab_mg sb_t1 38 rfl rfl
set_option maxRecDepth 20000 in
theorem q150 : Cond.fieldLinkNest "SealFaces" 88 "SealFaces$Tape" "length" "I" "SealFaces" ∈ ab_nest := ab_mn sb_t1 39 rfl rfl
set_option maxRecDepth 20000 in
theorem q157 : Cond.classLink "SealFaces" 16 "SealFaces$Tokens" ∈ ab_good := ab_mg sb_t1 46 rfl rfl
set_option maxRecDepth 20000 in
theorem q158 : Cond.instantiable "SealFaces$Tokens" 5 ∈ ab_good := ab_mg sb_t1 47 rfl rfl
set_option maxRecDepth 20000 in
theorem q159 : Cond.methodLink "SealFaces" 18 ⟨"SealFaces$Tokens", "<init>", "()V"⟩ ∈ ab_good := ab_mg sb_t1 48 rfl rfl
set_option maxRecDepth 20000 in
theorem q160 : Cond.instanceMethod ⟨"SealFaces$Tokens", "<init>", "()V"⟩ ∈ ab_good := ab_mg sb_t1 49 rfl rfl
set_option maxRecDepth 20000 in
theorem q161 : Cond.code ⟨"SealFaces$Tokens", "<init>", "()V"⟩ prog_11_method_1_code 6 none ∈ ab_good := ab_mg sb_t1 50 rfl rfl
set_option maxRecDepth 20000 in
theorem q162 : Cond.methodLink "SealFaces$Tokens" 3 ⟨"java/lang/Object", "<init>", "()V"⟩ ∈ ab_good := ab_mg sb_t1 51 rfl rfl
set_option maxRecDepth 20000 in
theorem q164 : Cond.methodLink "SealFaces$Tokens" 31 ⟨"java/lang/String", "length", "()I"⟩ ∈ ab_good := ab_mg sb_t1 53 rfl rfl
set_option maxRecDepth 20000 in
theorem q165 : Cond.instanceMethod ⟨"java/lang/String", "length", "()I"⟩ ∈ ab_good := ab_mg sb_t1 54 rfl rfl
set_option maxRecDepth 20000 in
theorem q166 : Cond.selects "java/lang/String" ⟨"java/lang/String", "length", "()I"⟩ ⟨"java/lang/String", "length", "()I"⟩ ∈ ab_good := ab_mg sb_t1 55 rfl rfl
set_option maxRecDepth 20000 in
theorem q167 : Cond.code ⟨"java/lang/String", "length", "()I"⟩ prog_18_method_54_code 1 (some .int) ∈ ab_good := ab_mg sb_t1 56 rfl rfl
set_option maxRecDepth 20000 in
theorem q168 : Cond.methodLink "java/lang/String" 335 ⟨"java/lang/String", "coder", "()B"⟩ ∈ ab_good := ab_mg sb_t1 57 rfl rfl
set_option maxRecDepth 20000 in
theorem q169 : Cond.instanceMethod ⟨"java/lang/String", "coder", "()B"⟩ ∈ ab_good := ab_mg sb_t1 58 rfl rfl
set_option maxRecDepth 20000 in
theorem q170 : Cond.selects "java/lang/String" ⟨"java/lang/String", "coder", "()B"⟩ ⟨"java/lang/String", "coder", "()B"⟩ ∈ ab_good := ab_mg sb_t1 59 rfl rfl
set_option maxRecDepth 20000 in
theorem q171 : Cond.code ⟨"java/lang/String", "coder", "()B"⟩ prog_18_method_152_code 1 (some .byte) ∈ ab_good := ab_mg sb_t1 60 rfl rfl
set_option maxRecDepth 20000 in
theorem q172 : Cond.fieldLink "java/lang/String" 38 "java/lang/String" "COMPACT_STRINGS" "Z" ∈ ab_good := ab_mg sb_t1 61 rfl rfl
set_option maxRecDepth 20000 in
theorem q174 : Cond.methodLink "SealFaces$Tokens" 37 ⟨"java/lang/String", "charAt", "(I)C"⟩ ∈ ab_good := ab_mg sb_t1 63 rfl rfl
set_option maxRecDepth 20000 in
theorem q175 : Cond.instanceMethod ⟨"java/lang/String", "charAt", "(I)C"⟩ ∈ ab_good := ab_mg sb_t1 64 rfl rfl
set_option maxRecDepth 20000 in
theorem q176 : Cond.selects "java/lang/String" ⟨"java/lang/String", "charAt", "(I)C"⟩ ⟨"java/lang/String", "charAt", "(I)C"⟩ ∈ ab_good := ab_mg sb_t1 65 rfl rfl
set_option maxRecDepth 20000 in
theorem q177 : Cond.code ⟨"java/lang/String", "charAt", "(I)C"⟩ prog_18_method_56_code 2 (some .char) ∈ ab_good := ab_mg sb_t1 66 rfl rfl
set_option maxRecDepth 20000 in
theorem q178 : Cond.methodLink "java/lang/String" 492 ⟨"java/lang/String", "isLatin1", "()Z"⟩ ∈ ab_good := ab_mg sb_t1 67 rfl rfl
set_option maxRecDepth 20000 in
theorem q179 : Cond.instanceMethod ⟨"java/lang/String", "isLatin1", "()Z"⟩ ∈ ab_good := ab_mg sb_t1 68 rfl rfl
set_option maxRecDepth 20000 in
theorem q180 : Cond.selects "java/lang/String" ⟨"java/lang/String", "isLatin1", "()Z"⟩ ⟨"java/lang/String", "isLatin1", "()Z"⟩ ∈ ab_good := ab_mg sb_t1 69 rfl rfl
set_option maxRecDepth 20000 in
theorem q181 : Cond.code ⟨"java/lang/String", "isLatin1", "()Z"⟩ prog_18_method_154_code 1 (some .boolean) ∈ ab_good := ab_mg sb_t1 70 rfl rfl
set_option maxRecDepth 20000 in
theorem q182 : Cond.methodLink "java/lang/String" 495 ⟨"java/lang/StringLatin1", "charAt", "([BI)C"⟩ ∈ ab_good := ab_mg sb_t1 71 rfl rfl
set_option maxRecDepth 20000 in
theorem q183 : Cond.static ⟨"java/lang/StringLatin1", "charAt", "([BI)C"⟩ ∈ ab_good := ab_mg sb_t1 72 rfl rfl
set_option maxRecDepth 20000 in
theorem q184 : Cond.code ⟨"java/lang/StringLatin1", "charAt", "([BI)C"⟩ prog_19_method_2_code 2 (some .char) ∈ ab_good := ab_mg sb_t1 73 rfl rfl
set_option maxRecDepth 20000 in
theorem q185 : Cond.methodLink "java/lang/StringLatin1" 9 ⟨"java/lang/String", "checkIndex", "(II)V"⟩ ∈ ab_good := ab_mg sb_t1 74 rfl rfl
set_option maxRecDepth 20000 in
theorem q186 : Cond.static ⟨"java/lang/String", "checkIndex", "(II)V"⟩ ∈ ab_good := ab_mg sb_t1 75 rfl rfl
set_option maxRecDepth 20000 in
theorem q187 : Cond.code ⟨"java/lang/String", "checkIndex", "(II)V"⟩ prog_18_method_155_code 2 none ∈ ab_good := ab_mg sb_t1 76 rfl rfl
set_option maxRecDepth 20000 in
theorem q188 : Cond.fieldLink "java/lang/String" 1053 "jdk/internal/util/Preconditions" "SIOOBE_FORMATTER" "Ljava/util/function/BiFunction;" ∈ ab_good := ab_mg sb_t1 77 rfl rfl
set_option maxRecDepth 20000 in
theorem q190 : Cond.methodLink "java/lang/String" 1059 ⟨"jdk/internal/util/Preconditions", "checkIndex", "(IILjava/util/function/BiFunction;)I"⟩ ∈ ab_good := ab_mg sb_t1 79 rfl rfl
set_option maxRecDepth 20000 in
theorem q191 : Cond.static ⟨"jdk/internal/util/Preconditions", "checkIndex", "(IILjava/util/function/BiFunction;)I"⟩ ∈ ab_good := ab_mg sb_t1 80 rfl rfl
set_option maxRecDepth 20000 in
theorem q192 : Cond.code ⟨"jdk/internal/util/Preconditions", "checkIndex", "(IILjava/util/function/BiFunction;)I"⟩ prog_23_method_11_code 3 (some .int) ∈ ab_good := ab_mg sb_t1 81 rfl rfl
set_option maxRecDepth 20000 in
theorem q212 : Cond.methodLink "SealFaces$Tokens" 41 ⟨"SealFaces$Tokens", "withLetter", "(JI)J"⟩ ∈ ab_good := ab_mg sb_t1 101 rfl rfl
set_option maxRecDepth 20000 in
theorem q213 : Cond.static ⟨"SealFaces$Tokens", "withLetter", "(JI)J"⟩ ∈ ab_good := ab_mg sb_t1 102 rfl rfl
set_option maxRecDepth 20000 in
theorem q214 : Cond.code ⟨"SealFaces$Tokens", "withLetter", "(JI)J"⟩ prog_11_method_12_code 3 (some .long) ∈ ab_good := ab_mg sb_t1 103 rfl rfl
set_option maxRecDepth 20000 in
theorem q215 : Cond.constantLong "SealFaces$Tokens" 98 (32) ∈ ab_good := ab_mg sb_t1 104 rfl rfl
set_option maxRecDepth 20000 in
theorem q216 : Cond.constantLong "SealFaces$Tokens" 100 (97) ∈ ab_good := ab_mg sb_t1 105 rfl rfl
set_option maxRecDepth 20000 in
theorem q217 : Cond.methodLinkNest "SealFaces$Tokens" 45 ⟨"SealFaces", "putLong", "([JIJ)V"⟩ "SealFaces" ∈ ab_nest := ab_mn sb_t1 106 rfl rfl
set_option maxRecDepth 20000 in
theorem q218 : Cond.static ⟨"SealFaces", "putLong", "([JIJ)V"⟩ ∈ ab_good := ab_mg sb_t1 107 rfl rfl
set_option maxRecDepth 20000 in
theorem q219 : Cond.code ⟨"SealFaces", "putLong", "([JIJ)V"⟩ prog_1_method_55_code 4 none ∈ ab_good := ab_mg sb_t1 108 rfl rfl
set_option maxRecDepth 20000 in
theorem q220 : Cond.fieldLink "SealFaces$Tokens" 9 "SealFaces$Tokens" "kinds" "[I" ∈ ab_good := ab_mg sb_t1 109 rfl rfl
set_option maxRecDepth 20000 in
theorem q221 : Cond.fieldLinkNest "SealFaces$Reader" 180 "SealFaces$Tokens" "kinds" "[I" "SealFaces" ∈ ab_nest := ab_mn sb_t1 110 rfl rfl
set_option maxRecDepth 20000 in
theorem q222 : Cond.fieldLink "SealFaces$Tokens" 15 "SealFaces$Tokens" "places" "[I" ∈ ab_good := ab_mg sb_t1 111 rfl rfl
set_option maxRecDepth 20000 in
theorem q223 : Cond.fieldLink "SealFaces$Tokens" 18 "SealFaces$Tokens" "values" "[J" ∈ ab_good := ab_mg sb_t1 112 rfl rfl
set_option maxRecDepth 20000 in
theorem q224 : Cond.fieldLink "SealFaces$Tokens" 22 "SealFaces$Tokens" "words" "[J" ∈ ab_good := ab_mg sb_t1 113 rfl rfl
set_option maxRecDepth 20000 in
theorem q225 : Cond.fieldLink "SealFaces$Tokens" 25 "SealFaces$Tokens" "size" "I" ∈ ab_good := ab_mg sb_t1 114 rfl rfl
set_option maxRecDepth 20000 in
theorem q239 : Cond.classLink "SealFaces" 23 "SealFaces$Reader" ∈ ab_good := ab_mg sb_t1 128 rfl rfl
set_option maxRecDepth 20000 in
theorem q240 : Cond.instantiable "SealFaces$Reader" 7 ∈ ab_good := ab_mg sb_t1 129 rfl rfl
set_option maxRecDepth 20000 in
theorem q241 : Cond.methodLink "SealFaces" 25 ⟨"SealFaces$Reader", "<init>", "(LSealFaces$Tokens;)V"⟩ ∈ ab_good := ab_mg sb_t1 130 rfl rfl
set_option maxRecDepth 20000 in
theorem q242 : Cond.instanceMethod ⟨"SealFaces$Reader", "<init>", "(LSealFaces$Tokens;)V"⟩ ∈ ab_good := ab_mg sb_t1 131 rfl rfl
set_option maxRecDepth 20000 in
theorem q243 : Cond.code ⟨"SealFaces$Reader", "<init>", "(LSealFaces$Tokens;)V"⟩ prog_7_method_1_code 2 none ∈ ab_good := ab_mg sb_t1 132 rfl rfl
set_option maxRecDepth 20000 in
theorem q244 : Cond.methodLink "SealFaces$Reader" 3 ⟨"java/lang/Object", "<init>", "()V"⟩ ∈ ab_good := ab_mg sb_t1 133 rfl rfl
set_option maxRecDepth 20000 in
theorem q245 : Cond.fieldLink "SealFaces$Reader" 30 "SealFaces$Reader" "tokens" "LSealFaces$Tokens;" ∈ ab_good := ab_mg sb_t1 134 rfl rfl
set_option maxRecDepth 20000 in
theorem q246 : Cond.fieldLink "SealFaces$Reader" 9 "SealFaces$Reader" "next" "I" ∈ ab_good := ab_mg sb_t1 135 rfl rfl
set_option maxRecDepth 20000 in
theorem q247 : Cond.fieldLink "SealFaces$Reader" 15 "SealFaces$Reader" "kind" "I" ∈ ab_good := ab_mg sb_t1 136 rfl rfl
set_option maxRecDepth 20000 in
theorem q248 : Cond.fieldLink "SealFaces$Reader" 18 "SealFaces$Reader" "fault" "I" ∈ ab_good := ab_mg sb_t1 137 rfl rfl
set_option maxRecDepth 20000 in
theorem q249 : Cond.fieldLink "SealFaces$Reader" 21 "SealFaces$Reader" "lateFault" "I" ∈ ab_good := ab_mg sb_t1 138 rfl rfl
set_option maxRecDepth 20000 in
theorem q250 : Cond.fieldLink "SealFaces$Reader" 24 "SealFaces$Reader" "lateToken" "I" ∈ ab_good := ab_mg sb_t1 139 rfl rfl
set_option maxRecDepth 20000 in
theorem q251 : Cond.fieldLink "SealFaces$Reader" 27 "SealFaces$Reader" "faultPlace" "I" ∈ ab_good := ab_mg sb_t1 140 rfl rfl
set_option maxRecDepth 20000 in
theorem q252 : Cond.fieldLinkNest "SealFaces" 102 "SealFaces$Reader" "faultPlace" "I" "SealFaces" ∈ ab_nest := ab_mn sb_t1 141 rfl rfl
set_option maxRecDepth 20000 in
theorem q268 : Cond.classLink "SealFaces" 32 "SealFaces$Hall" ∈ ab_good := ab_mg sb_t1 157 rfl rfl
set_option maxRecDepth 20000 in
theorem q269 : Cond.instantiable "SealFaces$Hall" 4 ∈ ab_good := ab_mg sb_t1 158 rfl rfl
set_option maxRecDepth 20000 in
theorem q270 : Cond.methodLinkNest "SealFaces" 34 ⟨"SealFaces$Hall", "<init>", "()V"⟩ "SealFaces" ∈ ab_nest := ab_mn sb_t1 159 rfl rfl
set_option maxRecDepth 20000 in
theorem q271 : Cond.instanceMethod ⟨"SealFaces$Hall", "<init>", "()V"⟩ ∈ ab_good := ab_mg sb_t1 160 rfl rfl
set_option maxRecDepth 20000 in
theorem q272 : Cond.code ⟨"SealFaces$Hall", "<init>", "()V"⟩ prog_3_method_1_code 1 none ∈ ab_good := ab_mg sb_t1 161 rfl rfl
set_option maxRecDepth 20000 in
theorem q273 : Cond.methodLink "SealFaces$Hall" 3 ⟨"java/lang/Object", "<init>", "()V"⟩ ∈ ab_good := ab_mg sb_t1 162 rfl rfl
set_option maxRecDepth 20000 in
theorem q274 : Cond.classLink "SealFaces$Hall" 9 "SealFaces$Scene" ∈ ab_good := ab_mg sb_t1 163 rfl rfl
set_option maxRecDepth 20000 in
theorem q275 : Cond.instantiable "SealFaces$Scene" 2 ∈ ab_good := ab_mg sb_t1 164 rfl rfl
set_option maxRecDepth 20000 in
theorem q276 : Cond.methodLinkNest "SealFaces$Hall" 11 ⟨"SealFaces$Scene", "<init>", "()V"⟩ "SealFaces" ∈ ab_nest := ab_mn sb_t1 165 rfl rfl
set_option maxRecDepth 20000 in
theorem q277 : Cond.instanceMethod ⟨"SealFaces$Scene", "<init>", "()V"⟩ ∈ ab_good := ab_mg sb_t1 166 rfl rfl
set_option maxRecDepth 20000 in
theorem q278 : Cond.code ⟨"SealFaces$Scene", "<init>", "()V"⟩ prog_8_method_1_code 1 none ∈ ab_good := ab_mg sb_t1 167 rfl rfl
set_option maxRecDepth 20000 in
theorem q279 : Cond.methodLink "SealFaces$Scene" 3 ⟨"java/lang/Object", "<init>", "()V"⟩ ∈ ab_good := ab_mg sb_t1 168 rfl rfl
set_option maxRecDepth 20000 in
theorem q280 : Cond.fieldLink "SealFaces$Scene" 9 "SealFaces$Scene" "row" "[I" ∈ ab_good := ab_mg sb_t1 169 rfl rfl
set_option maxRecDepth 20000 in
theorem q281 : Cond.fieldLink "SealFaces$Scene" 15 "SealFaces$Scene" "stamp" "I" ∈ ab_good := ab_mg sb_t1 170 rfl rfl
set_option maxRecDepth 20000 in
theorem q282 : Cond.fieldLinkNest "SealFaces$Plan" 45 "SealFaces$Scene" "stamp" "I" "SealFaces" ∈ ab_nest := ab_mn sb_t1 171 rfl rfl
set_option maxRecDepth 20000 in
theorem q288 : Cond.classLink "SealFaces$Hall" 25 "SealFaces$Text" ∈ ab_good := ab_mg sb_t1 177 rfl rfl
set_option maxRecDepth 20000 in
theorem q289 : Cond.instantiable "SealFaces$Text" 16 ∈ ab_good := ab_mg sb_t1 178 rfl rfl
set_option maxRecDepth 20000 in
theorem q290 : Cond.methodLink "SealFaces$Hall" 27 ⟨"SealFaces$Text", "<init>", "()V"⟩ ∈ ab_good := ab_mg sb_t1 179 rfl rfl
set_option maxRecDepth 20000 in
theorem q291 : Cond.instanceMethod ⟨"SealFaces$Text", "<init>", "()V"⟩ ∈ ab_good := ab_mg sb_t1 180 rfl rfl
set_option maxRecDepth 20000 in
theorem q292 : Cond.code ⟨"SealFaces$Text", "<init>", "()V"⟩ prog_10_method_1_code 1 none ∈ ab_good := ab_mg sb_t1 181 rfl rfl
set_option maxRecDepth 20000 in
theorem q293 : Cond.methodLink "SealFaces$Text" 3 ⟨"java/lang/Object", "<init>", "()V"⟩ ∈ ab_good := ab_mg sb_t1 182 rfl rfl
set_option maxRecDepth 20000 in
theorem q294 : Cond.classLink "SealFaces$Text" 34 "SealFaces$Law" ∈ ab_good := ab_mg sb_t1 183 rfl rfl
set_option maxRecDepth 20000 in
theorem q295 : Cond.instantiable "SealFaces$Law" 6 ∈ ab_good := ab_mg sb_t1 184 rfl rfl
set_option maxRecDepth 20000 in
theorem q296 : Cond.methodLinkNest "SealFaces$Text" 36 ⟨"SealFaces$Law", "<init>", "()V"⟩ "SealFaces" ∈ ab_nest := ab_mn sb_t1 185 rfl rfl
set_option maxRecDepth 20000 in
theorem q297 : Cond.instanceMethod ⟨"SealFaces$Law", "<init>", "()V"⟩ ∈ ab_good := ab_mg sb_t1 186 rfl rfl
set_option maxRecDepth 20000 in
theorem q298 : Cond.code ⟨"SealFaces$Law", "<init>", "()V"⟩ prog_4_method_1_code 1 none ∈ ab_good := ab_mg sb_t1 187 rfl rfl
set_option maxRecDepth 20000 in
theorem q299 : Cond.methodLink "SealFaces$Law" 3 ⟨"java/lang/Object", "<init>", "()V"⟩ ∈ ab_good := ab_mg sb_t1 188 rfl rfl
set_option maxRecDepth 20000 in
theorem q300 : Cond.fieldLink "SealFaces$Law" 9 "SealFaces$Law" "code" "[I" ∈ ab_good := ab_mg sb_t1 189 rfl rfl
set_option maxRecDepth 20000 in
theorem q301 : Cond.fieldLink "SealFaces$Law" 15 "SealFaces$Law" "ends" "[I" ∈ ab_good := ab_mg sb_t1 190 rfl rfl
set_option maxRecDepth 20000 in
theorem q302 : Cond.fieldLink "SealFaces$Law" 18 "SealFaces$Law" "stack" "[I" ∈ ab_good := ab_mg sb_t1 191 rfl rfl
set_option maxRecDepth 20000 in
theorem q303 : Cond.fieldLink "SealFaces$Law" 21 "SealFaces$Law" "size" "I" ∈ ab_good := ab_mg sb_t1 192 rfl rfl
set_option maxRecDepth 20000 in
theorem q304 : Cond.fieldLink "SealFaces$Law" 25 "SealFaces$Law" "parts" "I" ∈ ab_good := ab_mg sb_t1 193 rfl rfl
set_option maxRecDepth 20000 in
theorem q305 : Cond.fieldLink "SealFaces$Law" 28 "SealFaces$Law" "broken" "Z" ∈ ab_good := ab_mg sb_t1 194 rfl rfl
set_option maxRecDepth 20000 in
theorem q319 : Cond.methodLink "SealFaces$Text" 66 ⟨"SealFaces$Text", "clear", "()V"⟩ ∈ ab_good := ab_mg sb_t1 208 rfl rfl
set_option maxRecDepth 20000 in
theorem q320 : Cond.instanceMethod ⟨"SealFaces$Text", "clear", "()V"⟩ ∈ ab_good := ab_mg sb_t1 209 rfl rfl
set_option maxRecDepth 20000 in
theorem q321 : Cond.selects "SealFaces$Text" ⟨"SealFaces$Text", "clear", "()V"⟩ ⟨"SealFaces$Text", "clear", "()V"⟩ ∈ ab_good := ab_mg sb_t1 210 rfl rfl
set_option maxRecDepth 20000 in
theorem q322 : Cond.code ⟨"SealFaces$Text", "clear", "()V"⟩ prog_10_method_2_code 1 none ∈ ab_good := ab_mg sb_t1 211 rfl rfl
set_option maxRecDepth 20000 in
theorem q323 : Cond.methodLink "SealFaces$Text" 69 ⟨"SealFaces$Law", "setTo", "(I)V"⟩ ∈ ab_good := ab_mg sb_t1 212 rfl rfl
set_option maxRecDepth 20000 in
theorem q324 : Cond.instanceMethod ⟨"SealFaces$Law", "setTo", "(I)V"⟩ ∈ ab_good := ab_mg sb_t1 213 rfl rfl
set_option maxRecDepth 20000 in
theorem q325 : Cond.selects "SealFaces$Law" ⟨"SealFaces$Law", "setTo", "(I)V"⟩ ⟨"SealFaces$Law", "setTo", "(I)V"⟩ ∈ ab_good := ab_mg sb_t1 214 rfl rfl
set_option maxRecDepth 20000 in
theorem q326 : Cond.code ⟨"SealFaces$Law", "setTo", "(I)V"⟩ prog_4_method_3_code 2 none ∈ ab_good := ab_mg sb_t1 215 rfl rfl
set_option maxRecDepth 20000 in
theorem q327 : Cond.methodLink "SealFaces$Law" 32 ⟨"SealFaces$Law", "clear", "()V"⟩ ∈ ab_good := ab_mg sb_t1 216 rfl rfl
set_option maxRecDepth 20000 in
theorem q328 : Cond.instanceMethod ⟨"SealFaces$Law", "clear", "()V"⟩ ∈ ab_good := ab_mg sb_t1 217 rfl rfl
set_option maxRecDepth 20000 in
theorem q329 : Cond.selects "SealFaces$Law" ⟨"SealFaces$Law", "clear", "()V"⟩ ⟨"SealFaces$Law", "clear", "()V"⟩ ∈ ab_good := ab_mg sb_t1 218 rfl rfl
set_option maxRecDepth 20000 in
theorem q330 : Cond.code ⟨"SealFaces$Law", "clear", "()V"⟩ prog_4_method_2_code 1 none ∈ ab_good := ab_mg sb_t1 219 rfl rfl
set_option maxRecDepth 20000 in
theorem q331 : Cond.methodLink "SealFaces$Law" 35 ⟨"SealFaces$Law", "add", "(I)V"⟩ ∈ ab_good := ab_mg sb_t1 220 rfl rfl
set_option maxRecDepth 20000 in
theorem q332 : Cond.instanceMethod ⟨"SealFaces$Law", "add", "(I)V"⟩ ∈ ab_good := ab_mg sb_t1 221 rfl rfl
set_option maxRecDepth 20000 in
theorem q333 : Cond.selects "SealFaces$Law" ⟨"SealFaces$Law", "add", "(I)V"⟩ ⟨"SealFaces$Law", "add", "(I)V"⟩ ∈ ab_good := ab_mg sb_t1 222 rfl rfl
set_option maxRecDepth 20000 in
theorem q334 : Cond.code ⟨"SealFaces$Law", "add", "(I)V"⟩ prog_4_method_4_code 2 none ∈ ab_good := ab_mg sb_t1 223 rfl rfl
set_option maxRecDepth 20000 in
theorem q335 : Cond.methodLink "SealFaces$Law" 39 ⟨"SealFaces$Law", "endPart", "()V"⟩ ∈ ab_good := ab_mg sb_t1 224 rfl rfl
set_option maxRecDepth 20000 in
theorem q336 : Cond.instanceMethod ⟨"SealFaces$Law", "endPart", "()V"⟩ ∈ ab_good := ab_mg sb_t1 225 rfl rfl
set_option maxRecDepth 20000 in
theorem q337 : Cond.selects "SealFaces$Law" ⟨"SealFaces$Law", "endPart", "()V"⟩ ⟨"SealFaces$Law", "endPart", "()V"⟩ ∈ ab_good := ab_mg sb_t1 226 rfl rfl
set_option maxRecDepth 20000 in
theorem q338 : Cond.code ⟨"SealFaces$Law", "endPart", "()V"⟩ prog_4_method_5_code 1 none ∈ ab_good := ab_mg sb_t1 227 rfl rfl
set_option maxRecDepth 20000 in
theorem q339 : Cond.fieldLink "SealFaces$Text" 9 "SealFaces$Text" "clerkNames" "[J" ∈ ab_good := ab_mg sb_t1 228 rfl rfl
set_option maxRecDepth 20000 in
theorem q340 : Cond.fieldLinkNest "SealFaces$Reader" 110 "SealFaces$Text" "clerkNames" "[J" "SealFaces" ∈ ab_nest := ab_mn sb_t1 229 rfl rfl
set_option maxRecDepth 20000 in
theorem q341 : Cond.fieldLink "SealFaces$Text" 15 "SealFaces$Text" "ages" "[I" ∈ ab_good := ab_mg sb_t1 230 rfl rfl
set_option maxRecDepth 20000 in
theorem q342 : Cond.fieldLinkNest "SealFaces$Reader" 118 "SealFaces$Text" "ages" "[I" "SealFaces" ∈ ab_nest := ab_mn sb_t1 231 rfl rfl
set_option maxRecDepth 20000 in
theorem q343 : Cond.fieldLinkNest "SealFaces$Hall" 62 "SealFaces$Text" "ages" "[I" "SealFaces" ∈ ab_nest := ab_mn sb_t1 232 rfl rfl
set_option maxRecDepth 20000 in
theorem q344 : Cond.fieldLink "SealFaces$Text" 19 "SealFaces$Text" "firsts" "[I" ∈ ab_good := ab_mg sb_t1 233 rfl rfl
set_option maxRecDepth 20000 in
theorem q345 : Cond.fieldLinkNest "SealFaces$Reader" 102 "SealFaces$Text" "firsts" "[I" "SealFaces" ∈ ab_nest := ab_mn sb_t1 234 rfl rfl
set_option maxRecDepth 20000 in
theorem q346 : Cond.fieldLink "SealFaces$Text" 22 "SealFaces$Text" "deedNames" "[J" ∈ ab_good := ab_mg sb_t1 235 rfl rfl
set_option maxRecDepth 20000 in
theorem q347 : Cond.fieldLinkNest "SealFaces$Reader" 137 "SealFaces$Text" "deedNames" "[J" "SealFaces" ∈ ab_nest := ab_mn sb_t1 236 rfl rfl
set_option maxRecDepth 20000 in
theorem q348 : Cond.fieldLink "SealFaces$Text" 25 "SealFaces$Text" "worths" "[I" ∈ ab_good := ab_mg sb_t1 237 rfl rfl
set_option maxRecDepth 20000 in
theorem q349 : Cond.fieldLinkNest "SealFaces$Reader" 140 "SealFaces$Text" "worths" "[I" "SealFaces" ∈ ab_nest := ab_mn sb_t1 238 rfl rfl
set_option maxRecDepth 20000 in
theorem q350 : Cond.fieldLink "SealFaces$Text" 28 "SealFaces$Text" "needs" "[I" ∈ ab_good := ab_mg sb_t1 239 rfl rfl
set_option maxRecDepth 20000 in
theorem q351 : Cond.fieldLinkNest "SealFaces$Reader" 134 "SealFaces$Text" "needs" "[I" "SealFaces" ∈ ab_nest := ab_mn sb_t2 0 rfl rfl
set_option maxRecDepth 20000 in
theorem q352 : Cond.fieldLink "SealFaces$Text" 31 "SealFaces$Text" "treatyDeeds" "[I" ∈ ab_good := ab_mg sb_t2 1 rfl rfl
set_option maxRecDepth 20000 in
theorem q353 : Cond.fieldLinkNest "SealFaces$Reader" 154 "SealFaces$Text" "treatyDeeds" "[I" "SealFaces" ∈ ab_nest := ab_mn sb_t2 2 rfl rfl
set_option maxRecDepth 20000 in
theorem q354 : Cond.fieldLink "SealFaces$Text" 37 "SealFaces$Text" "taking" "LSealFaces$Law;" ∈ ab_good := ab_mg sb_t2 3 rfl rfl
set_option maxRecDepth 20000 in
theorem q355 : Cond.fieldLinkNest "SealFaces$Reader" 61 "SealFaces$Text" "taking" "LSealFaces$Law;" "SealFaces" ∈ ab_nest := ab_mn sb_t2 4 rfl rfl
set_option maxRecDepth 20000 in
theorem q356 : Cond.fieldLinkNest "SealFaces$Hall" 106 "SealFaces$Text" "taking" "LSealFaces$Law;" "SealFaces" ∈ ab_nest := ab_mn sb_t2 5 rfl rfl
set_option maxRecDepth 20000 in
theorem q357 : Cond.fieldLink "SealFaces$Text" 41 "SealFaces$Text" "growing" "LSealFaces$Law;" ∈ ab_good := ab_mg sb_t2 6 rfl rfl
set_option maxRecDepth 20000 in
theorem q358 : Cond.fieldLinkNest "SealFaces$Reader" 69 "SealFaces$Text" "growing" "LSealFaces$Law;" "SealFaces" ∈ ab_nest := ab_mn sb_t2 7 rfl rfl
set_option maxRecDepth 20000 in
theorem q359 : Cond.fieldLinkNest "SealFaces$Hall" 122 "SealFaces$Text" "growing" "LSealFaces$Law;" "SealFaces" ∈ ab_nest := ab_mn sb_t2 8 rfl rfl
set_option maxRecDepth 20000 in
theorem q360 : Cond.fieldLink "SealFaces$Text" 44 "SealFaces$Text" "binding" "LSealFaces$Law;" ∈ ab_good := ab_mg sb_t2 9 rfl rfl
set_option maxRecDepth 20000 in
theorem q361 : Cond.fieldLinkNest "SealFaces$Reader" 72 "SealFaces$Text" "binding" "LSealFaces$Law;" "SealFaces" ∈ ab_nest := ab_mn sb_t2 10 rfl rfl
set_option maxRecDepth 20000 in
theorem q362 : Cond.fieldLinkNest "SealFaces$Hall" 119 "SealFaces$Text" "binding" "LSealFaces$Law;" "SealFaces" ∈ ab_nest := ab_mn sb_t2 11 rfl rfl
set_option maxRecDepth 20000 in
theorem q363 : Cond.fieldLink "SealFaces$Text" 47 "SealFaces$Text" "fading" "LSealFaces$Law;" ∈ ab_good := ab_mg sb_t2 12 rfl rfl
set_option maxRecDepth 20000 in
theorem q364 : Cond.fieldLinkNest "SealFaces$Reader" 75 "SealFaces$Text" "fading" "LSealFaces$Law;" "SealFaces" ∈ ab_nest := ab_mn sb_t2 13 rfl rfl
set_option maxRecDepth 20000 in
theorem q365 : Cond.fieldLinkNest "SealFaces$Hall" 130 "SealFaces$Text" "fading" "LSealFaces$Law;" "SealFaces" ∈ ab_nest := ab_mn sb_t2 14 rfl rfl
set_option maxRecDepth 20000 in
theorem q366 : Cond.fieldLink "SealFaces$Text" 50 "SealFaces$Text" "clerks" "I" ∈ ab_good := ab_mg sb_t2 15 rfl rfl
set_option maxRecDepth 20000 in
theorem q367 : Cond.fieldLinkNest "SealFaces$Plan" 58 "SealFaces$Text" "clerks" "I" "SealFaces" ∈ ab_nest := ab_mn sb_t2 16 rfl rfl
set_option maxRecDepth 20000 in
theorem q368 : Cond.fieldLinkNest "SealFaces$Hall" 47 "SealFaces$Text" "clerks" "I" "SealFaces" ∈ ab_nest := ab_mn sb_t2 17 rfl rfl
set_option maxRecDepth 20000 in
theorem q369 : Cond.fieldLinkNest "SealFaces$Reader" 95 "SealFaces$Text" "clerks" "I" "SealFaces" ∈ ab_nest := ab_mn sb_t2 18 rfl rfl
set_option maxRecDepth 20000 in
theorem q370 : Cond.fieldLinkNest "SealFaces" 262 "SealFaces$Text" "clerks" "I" "SealFaces" ∈ ab_nest := ab_mn sb_t2 19 rfl rfl
set_option maxRecDepth 20000 in
theorem q371 : Cond.fieldLink "SealFaces$Text" 54 "SealFaces$Text" "deeds" "I" ∈ ab_good := ab_mg sb_t2 20 rfl rfl
set_option maxRecDepth 20000 in
theorem q372 : Cond.fieldLinkNest "SealFaces$Choices" 34 "SealFaces$Text" "deeds" "I" "SealFaces" ∈ ab_nest := ab_mn sb_t2 21 rfl rfl
set_option maxRecDepth 20000 in
theorem q373 : Cond.fieldLinkNest "SealFaces$Hall" 51 "SealFaces$Text" "deeds" "I" "SealFaces" ∈ ab_nest := ab_mn sb_t2 22 rfl rfl
set_option maxRecDepth 20000 in
theorem q374 : Cond.fieldLinkNest "SealFaces$Reader" 131 "SealFaces$Text" "deeds" "I" "SealFaces" ∈ ab_nest := ab_mn sb_t2 23 rfl rfl
set_option maxRecDepth 20000 in
theorem q375 : Cond.fieldLinkNest "SealFaces$Plan" 132 "SealFaces$Text" "deeds" "I" "SealFaces" ∈ ab_nest := ab_mn sb_t2 24 rfl rfl
set_option maxRecDepth 20000 in
theorem q376 : Cond.fieldLinkNest "SealFaces" 234 "SealFaces$Text" "deeds" "I" "SealFaces" ∈ ab_nest := ab_mn sb_t2 25 rfl rfl
set_option maxRecDepth 20000 in
theorem q377 : Cond.fieldLink "SealFaces$Text" 57 "SealFaces$Text" "treaties" "I" ∈ ab_good := ab_mg sb_t2 26 rfl rfl
set_option maxRecDepth 20000 in
theorem q378 : Cond.fieldLinkNest "SealFaces$Reader" 143 "SealFaces$Text" "treaties" "I" "SealFaces" ∈ ab_nest := ab_mn sb_t2 27 rfl rfl
set_option maxRecDepth 20000 in
theorem q379 : Cond.fieldLinkNest "SealFaces" 163 "SealFaces$Text" "treaties" "I" "SealFaces" ∈ ab_nest := ab_mn sb_t2 28 rfl rfl
set_option maxRecDepth 20000 in
theorem q380 : Cond.fieldLinkNest "SealFaces$Choices" 93 "SealFaces$Text" "treaties" "I" "SealFaces" ∈ ab_nest := ab_mn sb_t2 29 rfl rfl
set_option maxRecDepth 20000 in
theorem q381 : Cond.fieldLinkNest "SealFaces$Hall" 179 "SealFaces$Text" "treaties" "I" "SealFaces" ∈ ab_nest := ab_mn sb_t2 30 rfl rfl
set_option maxRecDepth 20000 in
theorem q382 : Cond.fieldLink "SealFaces$Text" 60 "SealFaces$Text" "slips" "I" ∈ ab_good := ab_mg sb_t2 31 rfl rfl
set_option maxRecDepth 20000 in
theorem q383 : Cond.fieldLinkNest "SealFaces$Reader" 85 "SealFaces$Text" "slips" "I" "SealFaces" ∈ ab_nest := ab_mn sb_t2 32 rfl rfl
set_option maxRecDepth 20000 in
theorem q384 : Cond.fieldLinkNest "SealFaces$Hall" 204 "SealFaces$Text" "slips" "I" "SealFaces" ∈ ab_nest := ab_mn sb_t2 33 rfl rfl
set_option maxRecDepth 20000 in
theorem q385 : Cond.fieldLink "SealFaces$Text" 63 "SealFaces$Text" "seed" "I" ∈ ab_good := ab_mg sb_t2 34 rfl rfl
set_option maxRecDepth 20000 in
theorem q386 : Cond.fieldLinkNest "SealFaces$Reader" 88 "SealFaces$Text" "seed" "I" "SealFaces" ∈ ab_nest := ab_mn sb_t2 35 rfl rfl
set_option maxRecDepth 20000 in
theorem q387 : Cond.fieldLinkNest "SealFaces" 285 "SealFaces$Text" "seed" "I" "SealFaces" ∈ ab_nest := ab_mn sb_t2 36 rfl rfl
set_option maxRecDepth 20000 in
theorem q421 : Cond.fieldLink "SealFaces$Hall" 12 "SealFaces$Hall" "scene" "LSealFaces$Scene;" ∈ ab_good := ab_mg sb_t2 70 rfl rfl
set_option maxRecDepth 20000 in
theorem q422 : Cond.fieldLinkNest "SealFaces$Plan" 39 "SealFaces$Hall" "scene" "LSealFaces$Scene;" "SealFaces" ∈ ab_nest := ab_mn sb_t2 71 rfl rfl
set_option maxRecDepth 20000 in
theorem q423 : Cond.fieldLinkNest "SealFaces" 116 "SealFaces$Hall" "scene" "LSealFaces$Scene;" "SealFaces" ∈ ab_nest := ab_mn sb_t2 72 rfl rfl
set_option maxRecDepth 20000 in
theorem q424 : Cond.fieldLinkNest "SealFaces$Choices" 102 "SealFaces$Hall" "scene" "LSealFaces$Scene;" "SealFaces" ∈ ab_nest := ab_mn sb_t2 73 rfl rfl
set_option maxRecDepth 20000 in
theorem q425 : Cond.fieldLink "SealFaces$Hall" 18 "SealFaces$Hall" "vars" "[I" ∈ ab_good := ab_mg sb_t2 74 rfl rfl
set_option maxRecDepth 20000 in
theorem q426 : Cond.fieldLink "SealFaces$Hall" 22 "SealFaces$Hall" "wanted" "[I" ∈ ab_good := ab_mg sb_t2 75 rfl rfl
set_option maxRecDepth 20000 in
theorem q427 : Cond.fieldLinkNest "SealFaces" 354 "SealFaces$Hall" "wanted" "[I" "SealFaces" ∈ ab_nest := ab_mn sb_t2 76 rfl rfl
set_option maxRecDepth 20000 in
theorem q428 : Cond.fieldLink "SealFaces$Hall" 28 "SealFaces$Hall" "text" "LSealFaces$Text;" ∈ ab_good := ab_mg sb_t2 77 rfl rfl
set_option maxRecDepth 20000 in
theorem q429 : Cond.fieldLinkNest "SealFaces$Choices" 28 "SealFaces$Hall" "text" "LSealFaces$Text;" "SealFaces" ∈ ab_nest := ab_mn sb_t2 78 rfl rfl
set_option maxRecDepth 20000 in
theorem q430 : Cond.fieldLinkNest "SealFaces$Plan" 54 "SealFaces$Hall" "text" "LSealFaces$Text;" "SealFaces" ∈ ab_nest := ab_mn sb_t2 79 rfl rfl
set_option maxRecDepth 20000 in
theorem q431 : Cond.fieldLinkNest "SealFaces" 126 "SealFaces$Hall" "text" "LSealFaces$Text;" "SealFaces" ∈ ab_nest := ab_mn sb_t2 80 rfl rfl
set_option maxRecDepth 20000 in
theorem q441 : Cond.classLink "SealFaces" 39 "SealFaces$Memory" ∈ ab_good := ab_mg sb_t2 90 rfl rfl
set_option maxRecDepth 20000 in
theorem q442 : Cond.instantiable "SealFaces$Memory" 5 ∈ ab_good := ab_mg sb_t2 91 rfl rfl
set_option maxRecDepth 20000 in
theorem q443 : Cond.methodLinkNest "SealFaces" 41 ⟨"SealFaces$Memory", "<init>", "()V"⟩ "SealFaces" ∈ ab_nest := ab_mn sb_t2 92 rfl rfl
set_option maxRecDepth 20000 in
theorem q444 : Cond.instanceMethod ⟨"SealFaces$Memory", "<init>", "()V"⟩ ∈ ab_good := ab_mg sb_t2 93 rfl rfl
set_option maxRecDepth 20000 in
theorem q445 : Cond.code ⟨"SealFaces$Memory", "<init>", "()V"⟩ prog_5_method_1_code 1 none ∈ ab_good := ab_mg sb_t2 94 rfl rfl
set_option maxRecDepth 20000 in
theorem q446 : Cond.methodLink "SealFaces$Memory" 3 ⟨"java/lang/Object", "<init>", "()V"⟩ ∈ ab_good := ab_mg sb_t2 95 rfl rfl
set_option maxRecDepth 20000 in
theorem q447 : Cond.fieldLink "SealFaces$Memory" 9 "SealFaces$Memory" "ring" "[I" ∈ ab_good := ab_mg sb_t2 96 rfl rfl
set_option maxRecDepth 20000 in
theorem q448 : Cond.fieldLink "SealFaces$Memory" 15 "SealFaces$Memory" "slots" "[I" ∈ ab_good := ab_mg sb_t2 97 rfl rfl
set_option maxRecDepth 20000 in
theorem q449 : Cond.fieldLink "SealFaces$Memory" 18 "SealFaces$Memory" "fullSlots" "I" ∈ ab_good := ab_mg sb_t2 98 rfl rfl
set_option maxRecDepth 20000 in
theorem q450 : Cond.fieldLink "SealFaces$Memory" 22 "SealFaces$Memory" "next" "I" ∈ ab_good := ab_mg sb_t2 99 rfl rfl
set_option maxRecDepth 20000 in
theorem q451 : Cond.fieldLink "SealFaces$Memory" 25 "SealFaces$Memory" "size" "I" ∈ ab_good := ab_mg sb_t2 100 rfl rfl
set_option maxRecDepth 20000 in
theorem q452 : Cond.fieldLinkNest "SealFaces" 335 "SealFaces$Memory" "size" "I" "SealFaces" ∈ ab_nest := ab_mn sb_t2 101 rfl rfl
set_option maxRecDepth 20000 in
theorem q464 : Cond.classLink "SealFaces" 46 "SealFaces$Told" ∈ ab_good := ab_mg sb_t2 113 rfl rfl
set_option maxRecDepth 20000 in
theorem q465 : Cond.instantiable "SealFaces$Told" 4 ∈ ab_good := ab_mg sb_t2 114 rfl rfl
set_option maxRecDepth 20000 in
theorem q466 : Cond.methodLinkNest "SealFaces" 48 ⟨"SealFaces$Told", "<init>", "()V"⟩ "SealFaces" ∈ ab_nest := ab_mn sb_t2 115 rfl rfl
set_option maxRecDepth 20000 in
theorem q467 : Cond.instanceMethod ⟨"SealFaces$Told", "<init>", "()V"⟩ ∈ ab_good := ab_mg sb_t2 116 rfl rfl
set_option maxRecDepth 20000 in
theorem q468 : Cond.code ⟨"SealFaces$Told", "<init>", "()V"⟩ prog_12_method_1_code 1 none ∈ ab_good := ab_mg sb_t2 117 rfl rfl
set_option maxRecDepth 20000 in
theorem q469 : Cond.methodLink "SealFaces$Told" 3 ⟨"java/lang/Object", "<init>", "()V"⟩ ∈ ab_good := ab_mg sb_t2 118 rfl rfl
set_option maxRecDepth 20000 in
theorem q470 : Cond.fieldLink "SealFaces$Told" 9 "SealFaces$Told" "features" "[I" ∈ ab_good := ab_mg sb_t2 119 rfl rfl
set_option maxRecDepth 20000 in
theorem q471 : Cond.fieldLink "SealFaces$Told" 15 "SealFaces$Told" "levels" "[I" ∈ ab_good := ab_mg sb_t2 120 rfl rfl
set_option maxRecDepth 20000 in
theorem q472 : Cond.fieldLink "SealFaces$Told" 18 "SealFaces$Told" "reached" "[Z" ∈ ab_good := ab_mg sb_t2 121 rfl rfl
set_option maxRecDepth 20000 in
theorem q473 : Cond.fieldLink "SealFaces$Told" 22 "SealFaces$Told" "size" "I" ∈ ab_good := ab_mg sb_t2 122 rfl rfl
set_option maxRecDepth 20000 in
theorem q474 : Cond.fieldLinkNest "SealFaces" 338 "SealFaces$Told" "size" "I" "SealFaces" ∈ ab_nest := ab_mn sb_t2 123 rfl rfl
set_option maxRecDepth 20000 in
theorem q485 : Cond.classLink "SealFaces" 53 "SealFaces$Plan" ∈ ab_good := ab_mg sb_t2 134 rfl rfl
set_option maxRecDepth 20000 in
theorem q486 : Cond.instantiable "SealFaces$Plan" 8 ∈ ab_good := ab_mg sb_t2 135 rfl rfl
set_option maxRecDepth 20000 in
theorem q487 : Cond.methodLink "SealFaces" 55 ⟨"SealFaces$Plan", "<init>", "(LSealFaces$Hall;)V"⟩ ∈ ab_good := ab_mg sb_t2 136 rfl rfl
set_option maxRecDepth 20000 in
theorem q488 : Cond.instanceMethod ⟨"SealFaces$Plan", "<init>", "(LSealFaces$Hall;)V"⟩ ∈ ab_good := ab_mg sb_t2 137 rfl rfl
set_option maxRecDepth 20000 in
theorem q489 : Cond.code ⟨"SealFaces$Plan", "<init>", "(LSealFaces$Hall;)V"⟩ prog_6_method_1_code 2 none ∈ ab_good := ab_mg sb_t2 138 rfl rfl
set_option maxRecDepth 20000 in
theorem q490 : Cond.methodLink "SealFaces$Plan" 3 ⟨"java/lang/Object", "<init>", "()V"⟩ ∈ ab_good := ab_mg sb_t2 139 rfl rfl
set_option maxRecDepth 20000 in
theorem q491 : Cond.fieldLink "SealFaces$Plan" 35 "SealFaces$Plan" "hall" "LSealFaces$Hall;" ∈ ab_good := ab_mg sb_t2 140 rfl rfl
set_option maxRecDepth 20000 in
theorem q492 : Cond.fieldLink "SealFaces$Plan" 9 "SealFaces$Plan" "canSets" "[J" ∈ ab_good := ab_mg sb_t2 141 rfl rfl
set_option maxRecDepth 20000 in
theorem q493 : Cond.fieldLink "SealFaces$Plan" 15 "SealFaces$Plan" "scores" "[I" ∈ ab_good := ab_mg sb_t2 142 rfl rfl
set_option maxRecDepth 20000 in
theorem q494 : Cond.fieldLink "SealFaces$Plan" 19 "SealFaces$Plan" "left" "[I" ∈ ab_good := ab_mg sb_t2 143 rfl rfl
set_option maxRecDepth 20000 in
theorem q495 : Cond.fieldLink "SealFaces$Plan" 22 "SealFaces$Plan" "lastPrints" "[I" ∈ ab_good := ab_mg sb_t2 144 rfl rfl
set_option maxRecDepth 20000 in
theorem q496 : Cond.fieldLink "SealFaces$Plan" 25 "SealFaces$Plan" "best" "[I" ∈ ab_good := ab_mg sb_t2 145 rfl rfl
set_option maxRecDepth 20000 in
theorem q497 : Cond.fieldLink "SealFaces$Plan" 28 "SealFaces$Plan" "reached" "[J" ∈ ab_good := ab_mg sb_t2 146 rfl rfl
set_option maxRecDepth 20000 in
theorem q498 : Cond.fieldLink "SealFaces$Plan" 31 "SealFaces$Plan" "madeFor" "I" ∈ ab_good := ab_mg sb_t2 147 rfl rfl
set_option maxRecDepth 20000 in
theorem q516 : Cond.classLink "SealFaces" 62 "SealFaces$Choices" ∈ ab_good := ab_mg sb_t2 165 rfl rfl
set_option maxRecDepth 20000 in
theorem q517 : Cond.instantiable "SealFaces$Choices" 5 ∈ ab_good := ab_mg sb_t2 166 rfl rfl
set_option maxRecDepth 20000 in
theorem q518 : Cond.methodLink "SealFaces" 64 ⟨"SealFaces$Choices", "<init>", "(LSealFaces$Hall;)V"⟩ ∈ ab_good := ab_mg sb_t2 167 rfl rfl
set_option maxRecDepth 20000 in
theorem q519 : Cond.instanceMethod ⟨"SealFaces$Choices", "<init>", "(LSealFaces$Hall;)V"⟩ ∈ ab_good := ab_mg sb_t2 168 rfl rfl
set_option maxRecDepth 20000 in
theorem q520 : Cond.code ⟨"SealFaces$Choices", "<init>", "(LSealFaces$Hall;)V"⟩ prog_2_method_1_code 2 none ∈ ab_good := ab_mg sb_t2 169 rfl rfl
set_option maxRecDepth 20000 in
theorem q521 : Cond.methodLink "SealFaces$Choices" 3 ⟨"java/lang/Object", "<init>", "()V"⟩ ∈ ab_good := ab_mg sb_t2 170 rfl rfl
set_option maxRecDepth 20000 in
theorem q522 : Cond.fieldLink "SealFaces$Choices" 24 "SealFaces$Choices" "hall" "LSealFaces$Hall;" ∈ ab_good := ab_mg sb_t2 171 rfl rfl
set_option maxRecDepth 20000 in
theorem q523 : Cond.fieldLink "SealFaces$Choices" 9 "SealFaces$Choices" "clerksFor" "[I" ∈ ab_good := ab_mg sb_t2 172 rfl rfl
set_option maxRecDepth 20000 in
theorem q524 : Cond.fieldLink "SealFaces$Choices" 15 "SealFaces$Choices" "most" "[I" ∈ ab_good := ab_mg sb_t2 173 rfl rfl
set_option maxRecDepth 20000 in
theorem q525 : Cond.fieldLink "SealFaces$Choices" 18 "SealFaces$Choices" "binds" "[I" ∈ ab_good := ab_mg sb_t2 174 rfl rfl
set_option maxRecDepth 20000 in
theorem q526 : Cond.fieldLink "SealFaces$Choices" 21 "SealFaces$Choices" "gains" "[I" ∈ ab_good := ab_mg sb_t2 175 rfl rfl
set_option maxRecDepth 20000 in
theorem q538 : Cond.classLink "SealFaces" 69 "SealFaces$Text" ∈ ab_good := ab_mg sb_t2 187 rfl rfl
set_option maxRecDepth 20000 in
theorem q539 : Cond.methodLink "SealFaces" 71 ⟨"SealFaces$Text", "<init>", "()V"⟩ ∈ ab_good := ab_mg sb_t2 188 rfl rfl
set_option maxRecDepth 20000 in
theorem q540 : Cond.fieldLink "SealFaces" 12 "SealFaces" "tape" "LSealFaces$Tape;" ∈ ab_good := ab_mg sb_t2 189 rfl rfl
set_option maxRecDepth 20000 in
theorem q541 : Cond.fieldLink "SealFaces" 19 "SealFaces" "tokens" "LSealFaces$Tokens;" ∈ ab_good := ab_mg sb_t2 190 rfl rfl
set_option maxRecDepth 20000 in
theorem q542 : Cond.fieldLink "SealFaces" 28 "SealFaces" "reader" "LSealFaces$Reader;" ∈ ab_good := ab_mg sb_t2 191 rfl rfl
set_option maxRecDepth 20000 in
theorem q543 : Cond.fieldLink "SealFaces" 35 "SealFaces" "hall" "LSealFaces$Hall;" ∈ ab_good := ab_mg sb_t2 192 rfl rfl
set_option maxRecDepth 20000 in
theorem q544 : Cond.fieldLink "SealFaces" 42 "SealFaces" "memory" "LSealFaces$Memory;" ∈ ab_good := ab_mg sb_t2 193 rfl rfl
set_option maxRecDepth 20000 in
theorem q545 : Cond.fieldLink "SealFaces" 49 "SealFaces" "told" "LSealFaces$Told;" ∈ ab_good := ab_mg sb_t2 194 rfl rfl
set_option maxRecDepth 20000 in
theorem q546 : Cond.fieldLink "SealFaces" 58 "SealFaces" "plan" "LSealFaces$Plan;" ∈ ab_good := ab_mg sb_t2 195 rfl rfl
set_option maxRecDepth 20000 in
theorem q547 : Cond.fieldLink "SealFaces" 65 "SealFaces" "choices" "LSealFaces$Choices;" ∈ ab_good := ab_mg sb_t2 196 rfl rfl
set_option maxRecDepth 20000 in
theorem q548 : Cond.fieldLink "SealFaces" 72 "SealFaces" "draft" "LSealFaces$Text;" ∈ ab_good := ab_mg sb_t2 197 rfl rfl
set_option maxRecDepth 20000 in
theorem q549 : Cond.fieldLink "SealFaces" 76 "SealFaces" "faultPlace" "I" ∈ ab_good := ab_mg sb_t2 198 rfl rfl
set_option maxRecDepth 20000 in
theorem q571 : Cond.methodLink "SealFacesLaw" 13 ⟨"SealFaces", "feed", "(IIIII)I"⟩ ∈ ab_good := ab_mg sb_t2 220 rfl rfl
set_option maxRecDepth 20000 in
theorem q572 : Cond.instanceMethod ⟨"SealFaces", "feed", "(IIIII)I"⟩ ∈ ab_good := ab_mg sb_t2 221 rfl rfl
set_option maxRecDepth 20000 in
theorem q573 : Cond.selects "SealFaces" ⟨"SealFaces", "feed", "(IIIII)I"⟩ ⟨"SealFaces", "feed", "(IIIII)I"⟩ ∈ ab_good := ab_mg sb_t2 222 rfl rfl
set_option maxRecDepth 20000 in
theorem q574 : Cond.code ⟨"SealFaces", "feed", "(IIIII)I"⟩ prog_1_method_2_code 6 (some .int) ∈ ab_good := ab_mg sb_t2 223 rfl rfl
set_option maxRecDepth 20000 in
theorem q575 : Cond.methodLink "SealFaces" 80 ⟨"SealFaces$Tape", "hasRoom", "(I)Z"⟩ ∈ ab_good := ab_mg sb_t2 224 rfl rfl
set_option maxRecDepth 20000 in
theorem q576 : Cond.instanceMethod ⟨"SealFaces$Tape", "hasRoom", "(I)Z"⟩ ∈ ab_good := ab_mg sb_t2 225 rfl rfl
set_option maxRecDepth 20000 in
theorem q577 : Cond.selects "SealFaces$Tape" ⟨"SealFaces$Tape", "hasRoom", "(I)Z"⟩ ⟨"SealFaces$Tape", "hasRoom", "(I)Z"⟩ ∈ ab_good := ab_mg sb_t2 226 rfl rfl
set_option maxRecDepth 20000 in
theorem q578 : Cond.code ⟨"SealFaces$Tape", "hasRoom", "(I)Z"⟩ prog_9_method_2_code 2 (some .boolean) ∈ ab_good := ab_mg sb_t2 227 rfl rfl
set_option maxRecDepth 20000 in
theorem q579 : Cond.methodLink "SealFaces" 84 ⟨"SealFaces$Tape", "addFour", "(I)V"⟩ ∈ ab_good := ab_mg sb_t2 228 rfl rfl
set_option maxRecDepth 20000 in
theorem q580 : Cond.instanceMethod ⟨"SealFaces$Tape", "addFour", "(I)V"⟩ ∈ ab_good := ab_mg sb_t2 229 rfl rfl
set_option maxRecDepth 20000 in
theorem q581 : Cond.selects "SealFaces$Tape" ⟨"SealFaces$Tape", "addFour", "(I)V"⟩ ⟨"SealFaces$Tape", "addFour", "(I)V"⟩ ∈ ab_good := ab_mg sb_t2 230 rfl rfl
set_option maxRecDepth 20000 in
theorem q582 : Cond.code ⟨"SealFaces$Tape", "addFour", "(I)V"⟩ prog_9_method_3_code 3 none ∈ ab_good := ab_mg sb_t2 231 rfl rfl
set_option maxRecDepth 20000 in
theorem q583 : Cond.methodLink "SealFacesLaw" 18 ⟨"SealFaces", "back", "(I)I"⟩ ∈ ab_good := ab_mg sb_t2 232 rfl rfl
set_option maxRecDepth 20000 in
theorem q584 : Cond.instanceMethod ⟨"SealFaces", "back", "(I)I"⟩ ∈ ab_good := ab_mg sb_t2 233 rfl rfl
set_option maxRecDepth 20000 in
theorem q585 : Cond.selects "SealFaces" ⟨"SealFaces", "back", "(I)I"⟩ ⟨"SealFaces", "back", "(I)I"⟩ ∈ ab_good := ab_mg sb_t2 234 rfl rfl
set_option maxRecDepth 20000 in
theorem q586 : Cond.code ⟨"SealFaces", "back", "(I)I"⟩ prog_1_method_3_code 2 (some .int) ∈ ab_good := ab_mg sb_t2 235 rfl rfl
set_option maxRecDepth 20000 in
theorem q587 : Cond.methodLink "SealFaces" 91 ⟨"SealFaces$Tape", "drop", "(I)Z"⟩ ∈ ab_good := ab_mg sb_t2 236 rfl rfl
set_option maxRecDepth 20000 in
theorem q588 : Cond.instanceMethod ⟨"SealFaces$Tape", "drop", "(I)Z"⟩ ∈ ab_good := ab_mg sb_t2 237 rfl rfl
set_option maxRecDepth 20000 in
theorem q589 : Cond.selects "SealFaces$Tape" ⟨"SealFaces$Tape", "drop", "(I)Z"⟩ ⟨"SealFaces$Tape", "drop", "(I)Z"⟩ ∈ ab_good := ab_mg sb_t2 238 rfl rfl
set_option maxRecDepth 20000 in
theorem q590 : Cond.code ⟨"SealFaces$Tape", "drop", "(I)Z"⟩ prog_9_method_4_code 2 (some .boolean) ∈ ab_good := ab_mg sb_t2 239 rfl rfl
set_option maxRecDepth 20000 in
theorem q591 : Cond.methodLink "SealFacesLaw" 23 ⟨"SealFaces", "read", "()I"⟩ ∈ ab_good := ab_mg sb_t3 0 rfl rfl
set_option maxRecDepth 20000 in
theorem q592 : Cond.instanceMethod ⟨"SealFaces", "read", "()I"⟩ ∈ ab_good := ab_mg sb_t3 1 rfl rfl
set_option maxRecDepth 20000 in
theorem q593 : Cond.selects "SealFaces" ⟨"SealFaces", "read", "()I"⟩ ⟨"SealFaces", "read", "()I"⟩ ∈ ab_good := ab_mg sb_t3 2 rfl rfl
set_option maxRecDepth 20000 in
theorem q594 : Cond.code ⟨"SealFaces", "read", "()I"⟩ prog_1_method_4_code 2 (some .int) ∈ ab_good := ab_mg sb_t3 3 rfl rfl
set_option maxRecDepth 20000 in
theorem q595 : Cond.methodLink "SealFaces" 94 ⟨"SealFaces$Tokens", "scan", "(LSealFaces$Tape;)V"⟩ ∈ ab_good := ab_mg sb_t3 4 rfl rfl
set_option maxRecDepth 20000 in
theorem q596 : Cond.instanceMethod ⟨"SealFaces$Tokens", "scan", "(LSealFaces$Tape;)V"⟩ ∈ ab_good := ab_mg sb_t3 5 rfl rfl
set_option maxRecDepth 20000 in
theorem q597 : Cond.selects "SealFaces$Tokens" ⟨"SealFaces$Tokens", "scan", "(LSealFaces$Tape;)V"⟩ ⟨"SealFaces$Tokens", "scan", "(LSealFaces$Tape;)V"⟩ ∈ ab_good := ab_mg sb_t3 6 rfl rfl
set_option maxRecDepth 20000 in
theorem q598 : Cond.code ⟨"SealFaces$Tokens", "scan", "(LSealFaces$Tape;)V"⟩ prog_11_method_2_code 5 none ∈ ab_good := ab_mg sb_t3 7 rfl rfl
set_option maxRecDepth 20000 in
theorem q599 : Cond.methodLink "SealFaces$Tokens" 49 ⟨"SealFaces$Tokens", "behindBlanks", "(LSealFaces$Tape;I)I"⟩ ∈ ab_good := ab_mg sb_t3 8 rfl rfl
set_option maxRecDepth 20000 in
theorem q600 : Cond.static ⟨"SealFaces$Tokens", "behindBlanks", "(LSealFaces$Tape;I)I"⟩ ∈ ab_good := ab_mg sb_t3 9 rfl rfl
set_option maxRecDepth 20000 in
theorem q601 : Cond.code ⟨"SealFaces$Tokens", "behindBlanks", "(LSealFaces$Tape;I)I"⟩ prog_11_method_11_code 3 (some .int) ∈ ab_good := ab_mg sb_t3 10 rfl rfl
set_option maxRecDepth 20000 in
theorem q602 : Cond.methodLink "SealFaces$Tokens" 60 ⟨"SealFaces$Tape", "byteAt", "(I)I"⟩ ∈ ab_good := ab_mg sb_t3 11 rfl rfl
set_option maxRecDepth 20000 in
theorem q603 : Cond.instanceMethod ⟨"SealFaces$Tape", "byteAt", "(I)I"⟩ ∈ ab_good := ab_mg sb_t3 12 rfl rfl
set_option maxRecDepth 20000 in
theorem q604 : Cond.selects "SealFaces$Tape" ⟨"SealFaces$Tape", "byteAt", "(I)I"⟩ ⟨"SealFaces$Tape", "byteAt", "(I)I"⟩ ∈ ab_good := ab_mg sb_t3 13 rfl rfl
set_option maxRecDepth 20000 in
theorem q605 : Cond.code ⟨"SealFaces$Tape", "byteAt", "(I)I"⟩ prog_9_method_5_code 2 (some .int) ∈ ab_good := ab_mg sb_t3 14 rfl rfl
set_option maxRecDepth 20000 in
theorem q606 : Cond.methodLink "SealFaces$Tokens" 95 ⟨"SealFaces$Tokens", "isBlank", "(I)Z"⟩ ∈ ab_good := ab_mg sb_t3 15 rfl rfl
set_option maxRecDepth 20000 in
theorem q607 : Cond.static ⟨"SealFaces$Tokens", "isBlank", "(I)Z"⟩ ∈ ab_good := ab_mg sb_t3 16 rfl rfl
set_option maxRecDepth 20000 in
theorem q608 : Cond.code ⟨"SealFaces$Tokens", "isBlank", "(I)Z"⟩ prog_11_method_13_code 1 (some .boolean) ∈ ab_good := ab_mg sb_t3 17 rfl rfl
set_option maxRecDepth 20000 in
theorem q609 : Cond.methodLink "SealFaces$Tokens" 53 ⟨"SealFaces$Tokens", "scanOne", "(LSealFaces$Tape;I)I"⟩ ∈ ab_good := ab_mg sb_t3 18 rfl rfl
set_option maxRecDepth 20000 in
theorem q611 : Cond.instanceMethod ⟨"SealFaces$Tokens", "scanOne", "(LSealFaces$Tape;I)I"⟩ ∈ ab_good := ab_mg sb_t3 20 rfl rfl
set_option maxRecDepth 20000 in
theorem q612 : Cond.code ⟨"SealFaces$Tokens", "scanOne", "(LSealFaces$Tape;I)I"⟩ prog_11_method_6_code 4 (some .int) ∈ ab_good := ab_mg sb_t3 21 rfl rfl
set_option maxRecDepth 20000 in
theorem q613 : Cond.methodLink "SealFaces$Tokens" 65 ⟨"SealFaces$Tokens", "isLetter", "(I)Z"⟩ ∈ ab_good := ab_mg sb_t3 22 rfl rfl
set_option maxRecDepth 20000 in
theorem q614 : Cond.static ⟨"SealFaces$Tokens", "isLetter", "(I)Z"⟩ ∈ ab_good := ab_mg sb_t3 23 rfl rfl
set_option maxRecDepth 20000 in
theorem q615 : Cond.code ⟨"SealFaces$Tokens", "isLetter", "(I)Z"⟩ prog_11_method_14_code 1 (some .boolean) ∈ ab_good := ab_mg sb_t3 24 rfl rfl
set_option maxRecDepth 20000 in
theorem q616 : Cond.methodLink "SealFaces$Tokens" 69 ⟨"SealFaces$Tokens", "scanLetters", "(LSealFaces$Tape;I)I"⟩ ∈ ab_good := ab_mg sb_t3 25 rfl rfl
set_option maxRecDepth 20000 in
theorem q618 : Cond.instanceMethod ⟨"SealFaces$Tokens", "scanLetters", "(LSealFaces$Tape;I)I"⟩ ∈ ab_good := ab_mg sb_t3 27 rfl rfl
set_option maxRecDepth 20000 in
theorem q619 : Cond.code ⟨"SealFaces$Tokens", "scanLetters", "(LSealFaces$Tape;I)I"⟩ prog_11_method_7_code 6 (some .int) ∈ ab_good := ab_mg sb_t3 28 rfl rfl
set_option maxRecDepth 20000 in
theorem q620 : Cond.methodLink "SealFaces$Tokens" 87 ⟨"SealFaces$Tokens", "kindOf", "(J)I"⟩ ∈ ab_good := ab_mg sb_t3 29 rfl rfl
set_option maxRecDepth 20000 in
theorem q622 : Cond.instanceMethod ⟨"SealFaces$Tokens", "kindOf", "(J)I"⟩ ∈ ab_good := ab_mg sb_t3 31 rfl rfl
set_option maxRecDepth 20000 in
theorem q623 : Cond.code ⟨"SealFaces$Tokens", "kindOf", "(J)I"⟩ prog_11_method_9_code 4 (some .int) ∈ ab_good := ab_mg sb_t3 32 rfl rfl
set_option maxRecDepth 20000 in
theorem q624 : Cond.methodLink "SealFaces$Tokens" 78 ⟨"SealFaces$Tokens", "add", "(IIJ)V"⟩ ∈ ab_good := ab_mg sb_t3 33 rfl rfl
set_option maxRecDepth 20000 in
theorem q626 : Cond.instanceMethod ⟨"SealFaces$Tokens", "add", "(IIJ)V"⟩ ∈ ab_good := ab_mg sb_t3 35 rfl rfl
set_option maxRecDepth 20000 in
theorem q627 : Cond.code ⟨"SealFaces$Tokens", "add", "(IIJ)V"⟩ prog_11_method_10_code 5 none ∈ ab_good := ab_mg sb_t3 36 rfl rfl
set_option maxRecDepth 20000 in
theorem q628 : Cond.methodLinkNest "SealFaces$Tokens" 91 ⟨"SealFaces", "put", "([III)V"⟩ "SealFaces" ∈ ab_nest := ab_mn sb_t3 37 rfl rfl
set_option maxRecDepth 20000 in
theorem q629 : Cond.static ⟨"SealFaces", "put", "([III)V"⟩ ∈ ab_good := ab_mg sb_t3 38 rfl rfl
set_option maxRecDepth 20000 in
theorem q630 : Cond.code ⟨"SealFaces", "put", "([III)V"⟩ prog_1_method_53_code 3 none ∈ ab_good := ab_mg sb_t3 39 rfl rfl
set_option maxRecDepth 20000 in
theorem q631 : Cond.methodLink "SealFaces$Tokens" 72 ⟨"SealFaces$Tokens", "isDigit", "(I)Z"⟩ ∈ ab_good := ab_mg sb_t3 40 rfl rfl
set_option maxRecDepth 20000 in
theorem q632 : Cond.static ⟨"SealFaces$Tokens", "isDigit", "(I)Z"⟩ ∈ ab_good := ab_mg sb_t3 41 rfl rfl
set_option maxRecDepth 20000 in
theorem q633 : Cond.code ⟨"SealFaces$Tokens", "isDigit", "(I)Z"⟩ prog_11_method_15_code 1 (some .boolean) ∈ ab_good := ab_mg sb_t3 42 rfl rfl
set_option maxRecDepth 20000 in
theorem q634 : Cond.methodLink "SealFaces$Tokens" 75 ⟨"SealFaces$Tokens", "scanDigits", "(LSealFaces$Tape;I)I"⟩ ∈ ab_good := ab_mg sb_t3 43 rfl rfl
set_option maxRecDepth 20000 in
theorem q636 : Cond.instanceMethod ⟨"SealFaces$Tokens", "scanDigits", "(LSealFaces$Tape;I)I"⟩ ∈ ab_good := ab_mg sb_t3 45 rfl rfl
set_option maxRecDepth 20000 in
theorem q637 : Cond.code ⟨"SealFaces$Tokens", "scanDigits", "(LSealFaces$Tape;I)I"⟩ prog_11_method_8_code 5 (some .int) ∈ ab_good := ab_mg sb_t3 46 rfl rfl
set_option maxRecDepth 20000 in
theorem q639 : Cond.methodLink "SealFaces$Tokens" 84 ⟨"java/lang/String", "indexOf", "(I)I"⟩ ∈ ab_good := ab_mg sb_t3 48 rfl rfl
set_option maxRecDepth 20000 in
theorem q640 : Cond.instanceMethod ⟨"java/lang/String", "indexOf", "(I)I"⟩ ∈ ab_good := ab_mg sb_t3 49 rfl rfl
set_option maxRecDepth 20000 in
theorem q641 : Cond.selects "java/lang/String" ⟨"java/lang/String", "indexOf", "(I)I"⟩ ⟨"java/lang/String", "indexOf", "(I)I"⟩ ∈ ab_good := ab_mg sb_t3 50 rfl rfl
set_option maxRecDepth 20000 in
theorem q642 : Cond.code ⟨"java/lang/String", "indexOf", "(I)I"⟩ prog_18_method_79_code 2 (some .int) ∈ ab_good := ab_mg sb_t3 51 rfl rfl
set_option maxRecDepth 20000 in
theorem q643 : Cond.methodLink "java/lang/String" 633 ⟨"java/lang/String", "indexOf", "(II)I"⟩ ∈ ab_good := ab_mg sb_t3 52 rfl rfl
set_option maxRecDepth 20000 in
theorem q644 : Cond.instanceMethod ⟨"java/lang/String", "indexOf", "(II)I"⟩ ∈ ab_good := ab_mg sb_t3 53 rfl rfl
set_option maxRecDepth 20000 in
theorem q645 : Cond.selects "java/lang/String" ⟨"java/lang/String", "indexOf", "(II)I"⟩ ⟨"java/lang/String", "indexOf", "(II)I"⟩ ∈ ab_good := ab_mg sb_t3 54 rfl rfl
set_option maxRecDepth 20000 in
theorem q646 : Cond.code ⟨"java/lang/String", "indexOf", "(II)I"⟩ prog_18_method_80_code 3 (some .int) ∈ ab_good := ab_mg sb_t3 55 rfl rfl
set_option maxRecDepth 20000 in
theorem q647 : Cond.methodLink "java/lang/String" 505 ⟨"java/lang/String", "length", "()I"⟩ ∈ ab_good := ab_mg sb_t3 56 rfl rfl
set_option maxRecDepth 20000 in
theorem q648 : Cond.methodLink "java/lang/String" 637 ⟨"java/lang/StringLatin1", "indexOf", "([BIII)I"⟩ ∈ ab_good := ab_mg sb_t3 57 rfl rfl
set_option maxRecDepth 20000 in
theorem q649 : Cond.static ⟨"java/lang/StringLatin1", "indexOf", "([BIII)I"⟩ ∈ ab_good := ab_mg sb_t3 58 rfl rfl
set_option maxRecDepth 20000 in
theorem q650 : Cond.code ⟨"java/lang/StringLatin1", "indexOf", "([BIII)I"⟩ prog_19_method_22_code 4 (some .int) ∈ ab_good := ab_mg sb_t3 59 rfl rfl
set_option maxRecDepth 20000 in
theorem q651 : Cond.methodLink "java/lang/StringLatin1" 88 ⟨"java/lang/StringLatin1", "canEncode", "(I)Z"⟩ ∈ ab_good := ab_mg sb_t3 60 rfl rfl
set_option maxRecDepth 20000 in
theorem q652 : Cond.static ⟨"java/lang/StringLatin1", "canEncode", "(I)Z"⟩ ∈ ab_good := ab_mg sb_t3 61 rfl rfl
set_option maxRecDepth 20000 in
theorem q653 : Cond.code ⟨"java/lang/StringLatin1", "canEncode", "(I)Z"⟩ prog_19_method_4_code 1 (some .boolean) ∈ ab_good := ab_mg sb_t3 62 rfl rfl
set_option maxRecDepth 20000 in
theorem q654 : Cond.methodLink "java/lang/StringLatin1" 92 ⟨"java/lang/Math", "max", "(II)I"⟩ ∈ ab_good := ab_mg sb_t3 63 rfl rfl
set_option maxRecDepth 20000 in
theorem q655 : Cond.static ⟨"java/lang/Math", "max", "(II)I"⟩ ∈ ab_good := ab_mg sb_t3 64 rfl rfl
set_option maxRecDepth 20000 in
theorem q656 : Cond.code ⟨"java/lang/Math", "max", "(II)I"⟩ prog_17_method_65_code 2 (some .int) ∈ ab_good := ab_mg sb_t3 65 rfl rfl
set_option maxRecDepth 20000 in
theorem q657 : Cond.methodLink "java/lang/StringLatin1" 38 ⟨"java/lang/Math", "min", "(II)I"⟩ ∈ ab_good := ab_mg sb_t3 66 rfl rfl
set_option maxRecDepth 20000 in
theorem q658 : Cond.static ⟨"java/lang/Math", "min", "(II)I"⟩ ∈ ab_good := ab_mg sb_t3 67 rfl rfl
set_option maxRecDepth 20000 in
theorem q659 : Cond.code ⟨"java/lang/Math", "min", "(II)I"⟩ prog_17_method_69_code 2 (some .int) ∈ ab_good := ab_mg sb_t3 68 rfl rfl
set_option maxRecDepth 20000 in
theorem q660 : Cond.methodLink "java/lang/StringLatin1" 95 ⟨"java/lang/StringLatin1", "indexOfChar", "([BIII)I"⟩ ∈ ab_good := ab_mg sb_t3 69 rfl rfl
set_option maxRecDepth 20000 in
theorem q661 : Cond.static ⟨"java/lang/StringLatin1", "indexOfChar", "([BIII)I"⟩ ∈ ab_good := ab_mg sb_t3 70 rfl rfl
set_option maxRecDepth 20000 in
theorem q662 : Cond.code ⟨"java/lang/StringLatin1", "indexOfChar", "([BIII)I"⟩ prog_19_method_23_code 6 (some .int) ∈ ab_good := ab_mg sb_t3 71 rfl rfl
set_option maxRecDepth 20000 in
theorem q678 : Cond.methodLink "java/lang/String" 1062 ⟨"jdk/internal/util/Preconditions", "checkFromToIndex", "(IIILjava/util/function/BiFunction;)I"⟩ ∈ ab_good := ab_mg sb_t3 87 rfl rfl
set_option maxRecDepth 20000 in
theorem q679 : Cond.static ⟨"jdk/internal/util/Preconditions", "checkFromToIndex", "(IIILjava/util/function/BiFunction;)I"⟩ ∈ ab_good := ab_mg sb_t3 88 rfl rfl
set_option maxRecDepth 20000 in
theorem q680 : Cond.code ⟨"jdk/internal/util/Preconditions", "checkFromToIndex", "(IIILjava/util/function/BiFunction;)I"⟩ prog_23_method_12_code 4 (some .int) ∈ ab_good := ab_mg sb_t3 89 rfl rfl
set_option maxRecDepth 20000 in
theorem q698 : Cond.methodLink "SealFaces$Tokens" 56 ⟨"SealFaces$Tokens", "kindAt", "(I)I"⟩ ∈ ab_good := ab_mg sb_t3 107 rfl rfl
set_option maxRecDepth 20000 in
theorem q699 : Cond.instanceMethod ⟨"SealFaces$Tokens", "kindAt", "(I)I"⟩ ∈ ab_good := ab_mg sb_t3 108 rfl rfl
set_option maxRecDepth 20000 in
theorem q700 : Cond.selects "SealFaces$Tokens" ⟨"SealFaces$Tokens", "kindAt", "(I)I"⟩ ⟨"SealFaces$Tokens", "kindAt", "(I)I"⟩ ∈ ab_good := ab_mg sb_t3 109 rfl rfl
set_option maxRecDepth 20000 in
theorem q701 : Cond.code ⟨"SealFaces$Tokens", "kindAt", "(I)I"⟩ prog_11_method_3_code 2 (some .int) ∈ ab_good := ab_mg sb_t3 110 rfl rfl
set_option maxRecDepth 20000 in
theorem q702 : Cond.methodLink "SealFaces" 98 ⟨"SealFaces$Reader", "parse", "(LSealFaces$Text;)I"⟩ ∈ ab_good := ab_mg sb_t3 111 rfl rfl
set_option maxRecDepth 20000 in
theorem q703 : Cond.instanceMethod ⟨"SealFaces$Reader", "parse", "(LSealFaces$Text;)I"⟩ ∈ ab_good := ab_mg sb_t3 112 rfl rfl
set_option maxRecDepth 20000 in
theorem q704 : Cond.selects "SealFaces$Reader" ⟨"SealFaces$Reader", "parse", "(LSealFaces$Text;)I"⟩ ⟨"SealFaces$Reader", "parse", "(LSealFaces$Text;)I"⟩ ∈ ab_good := ab_mg sb_t3 113 rfl rfl
set_option maxRecDepth 20000 in
theorem q705 : Cond.code ⟨"SealFaces$Reader", "parse", "(LSealFaces$Text;)I"⟩ prog_7_method_2_code 3 (some .int) ∈ ab_good := ab_mg sb_t3 114 rfl rfl
set_option maxRecDepth 20000 in
theorem q706 : Cond.methodLink "SealFaces$Reader" 34 ⟨"SealFaces$Text", "clear", "()V"⟩ ∈ ab_good := ab_mg sb_t3 115 rfl rfl
set_option maxRecDepth 20000 in
theorem q707 : Cond.methodLink "SealFaces$Reader" 39 ⟨"SealFaces$Tokens", "kindAt", "(I)I"⟩ ∈ ab_good := ab_mg sb_t3 116 rfl rfl
set_option maxRecDepth 20000 in
theorem q708 : Cond.methodLink "SealFaces$Reader" 45 ⟨"SealFaces$Reader", "parseTell", "(LSealFaces$Text;)V"⟩ ∈ ab_good := ab_mg sb_t3 117 rfl rfl
set_option maxRecDepth 20000 in
theorem q710 : Cond.instanceMethod ⟨"SealFaces$Reader", "parseTell", "(LSealFaces$Text;)V"⟩ ∈ ab_good := ab_mg sb_t3 119 rfl rfl
set_option maxRecDepth 20000 in
theorem q711 : Cond.code ⟨"SealFaces$Reader", "parseTell", "(LSealFaces$Text;)V"⟩ prog_7_method_3_code 2 none ∈ ab_good := ab_mg sb_t3 120 rfl rfl
set_option maxRecDepth 20000 in
theorem q712 : Cond.methodLink "SealFaces$Reader" 52 ⟨"SealFaces$Reader", "parseClerk", "(LSealFaces$Text;)V"⟩ ∈ ab_good := ab_mg sb_t3 121 rfl rfl
set_option maxRecDepth 20000 in
theorem q714 : Cond.instanceMethod ⟨"SealFaces$Reader", "parseClerk", "(LSealFaces$Text;)V"⟩ ∈ ab_good := ab_mg sb_t3 123 rfl rfl
set_option maxRecDepth 20000 in
theorem q715 : Cond.code ⟨"SealFaces$Reader", "parseClerk", "(LSealFaces$Text;)V"⟩ prog_7_method_4_code 6 none ∈ ab_good := ab_mg sb_t3 124 rfl rfl
set_option maxRecDepth 20000 in
theorem q716 : Cond.methodLink "SealFaces$Reader" 91 ⟨"SealFaces$Reader", "fail", "(I)V"⟩ ∈ ab_good := ab_mg sb_t3 125 rfl rfl
set_option maxRecDepth 20000 in
theorem q718 : Cond.instanceMethod ⟨"SealFaces$Reader", "fail", "(I)V"⟩ ∈ ab_good := ab_mg sb_t3 127 rfl rfl
set_option maxRecDepth 20000 in
theorem q719 : Cond.code ⟨"SealFaces$Reader", "fail", "(I)V"⟩ prog_7_method_16_code 2 none ∈ ab_good := ab_mg sb_t3 128 rfl rfl
set_option maxRecDepth 20000 in
theorem q720 : Cond.methodLink "SealFaces$Reader" 78 ⟨"SealFaces$Reader", "accept", "(I)Z"⟩ ∈ ab_good := ab_mg sb_t3 129 rfl rfl
set_option maxRecDepth 20000 in
theorem q722 : Cond.instanceMethod ⟨"SealFaces$Reader", "accept", "(I)Z"⟩ ∈ ab_good := ab_mg sb_t3 131 rfl rfl
set_option maxRecDepth 20000 in
theorem q723 : Cond.code ⟨"SealFaces$Reader", "accept", "(I)Z"⟩ prog_7_method_11_code 2 (some .boolean) ∈ ab_good := ab_mg sb_t3 132 rfl rfl
set_option maxRecDepth 20000 in
theorem q724 : Cond.methodLink "SealFaces$Reader" 98 ⟨"SealFaces$Reader", "acceptNewName", "(LSealFaces$Text;)J"⟩ ∈ ab_good := ab_mg sb_t3 133 rfl rfl
set_option maxRecDepth 20000 in
theorem q726 : Cond.instanceMethod ⟨"SealFaces$Reader", "acceptNewName", "(LSealFaces$Text;)J"⟩ ∈ ab_good := ab_mg sb_t3 135 rfl rfl
set_option maxRecDepth 20000 in
theorem q727 : Cond.code ⟨"SealFaces$Reader", "acceptNewName", "(LSealFaces$Text;)J"⟩ prog_7_method_14_code 5 (some .long) ∈ ab_good := ab_mg sb_t3 136 rfl rfl
set_option maxRecDepth 20000 in
theorem q728 : Cond.methodLink "SealFaces$Reader" 176 ⟨"SealFaces$Tokens", "valueAt", "(I)J"⟩ ∈ ab_good := ab_mg sb_t3 137 rfl rfl
set_option maxRecDepth 20000 in
theorem q729 : Cond.instanceMethod ⟨"SealFaces$Tokens", "valueAt", "(I)J"⟩ ∈ ab_good := ab_mg sb_t3 138 rfl rfl
set_option maxRecDepth 20000 in
theorem q730 : Cond.selects "SealFaces$Tokens" ⟨"SealFaces$Tokens", "valueAt", "(I)J"⟩ ⟨"SealFaces$Tokens", "valueAt", "(I)J"⟩ ∈ ab_good := ab_mg sb_t3 139 rfl rfl
set_option maxRecDepth 20000 in
theorem q731 : Cond.code ⟨"SealFaces$Tokens", "valueAt", "(I)J"⟩ prog_11_method_5_code 2 (some .long) ∈ ab_good := ab_mg sb_t3 140 rfl rfl
set_option maxRecDepth 20000 in
theorem q732 : Cond.methodLink "SealFaces$Reader" 183 ⟨"SealFaces$Text", "hasName", "(J)Z"⟩ ∈ ab_good := ab_mg sb_t3 141 rfl rfl
set_option maxRecDepth 20000 in
theorem q733 : Cond.instanceMethod ⟨"SealFaces$Text", "hasName", "(J)Z"⟩ ∈ ab_good := ab_mg sb_t3 142 rfl rfl
set_option maxRecDepth 20000 in
theorem q734 : Cond.selects "SealFaces$Text" ⟨"SealFaces$Text", "hasName", "(J)Z"⟩ ⟨"SealFaces$Text", "hasName", "(J)Z"⟩ ∈ ab_good := ab_mg sb_t3 143 rfl rfl
set_option maxRecDepth 20000 in
theorem q735 : Cond.code ⟨"SealFaces$Text", "hasName", "(J)Z"⟩ prog_10_method_7_code 4 (some .boolean) ∈ ab_good := ab_mg sb_t3 144 rfl rfl
set_option maxRecDepth 20000 in
theorem q736 : Cond.methodLink "SealFaces$Text" 77 ⟨"SealFaces$Text", "deedNamed", "(J)I"⟩ ∈ ab_good := ab_mg sb_t3 145 rfl rfl
set_option maxRecDepth 20000 in
theorem q737 : Cond.instanceMethod ⟨"SealFaces$Text", "deedNamed", "(J)I"⟩ ∈ ab_good := ab_mg sb_t3 146 rfl rfl
set_option maxRecDepth 20000 in
theorem q738 : Cond.selects "SealFaces$Text" ⟨"SealFaces$Text", "deedNamed", "(J)I"⟩ ⟨"SealFaces$Text", "deedNamed", "(J)I"⟩ ∈ ab_good := ab_mg sb_t3 147 rfl rfl
set_option maxRecDepth 20000 in
theorem q739 : Cond.code ⟨"SealFaces$Text", "deedNamed", "(J)I"⟩ prog_10_method_8_code 4 (some .int) ∈ ab_good := ab_mg sb_t3 148 rfl rfl
set_option maxRecDepth 20000 in
theorem q740 : Cond.methodLink "SealFaces$Reader" 150 ⟨"SealFaces$Reader", "failLate", "(II)V"⟩ ∈ ab_good := ab_mg sb_t3 149 rfl rfl
set_option maxRecDepth 20000 in
theorem q742 : Cond.instanceMethod ⟨"SealFaces$Reader", "failLate", "(II)V"⟩ ∈ ab_good := ab_mg sb_t3 151 rfl rfl
set_option maxRecDepth 20000 in
theorem q743 : Cond.code ⟨"SealFaces$Reader", "failLate", "(II)V"⟩ prog_7_method_17_code 3 none ∈ ab_good := ab_mg sb_t3 152 rfl rfl
set_option maxRecDepth 20000 in
theorem q744 : Cond.methodLink "SealFaces$Reader" 82 ⟨"SealFaces$Reader", "acceptInt", "(I)I"⟩ ∈ ab_good := ab_mg sb_t3 153 rfl rfl
set_option maxRecDepth 20000 in
theorem q746 : Cond.instanceMethod ⟨"SealFaces$Reader", "acceptInt", "(I)I"⟩ ∈ ab_good := ab_mg sb_t3 155 rfl rfl
set_option maxRecDepth 20000 in
theorem q747 : Cond.code ⟨"SealFaces$Reader", "acceptInt", "(I)I"⟩ prog_7_method_12_code 4 (some .int) ∈ ab_good := ab_mg sb_t3 156 rfl rfl
set_option maxRecDepth 20000 in
theorem q748 : Cond.methodLink "SealFaces$Reader" 106 ⟨"SealFaces$Reader", "acceptLevels", "([II)V"⟩ ∈ ab_good := ab_mg sb_t3 157 rfl rfl
set_option maxRecDepth 20000 in
theorem q750 : Cond.instanceMethod ⟨"SealFaces$Reader", "acceptLevels", "([II)V"⟩ ∈ ab_good := ab_mg sb_t3 159 rfl rfl
set_option maxRecDepth 20000 in
theorem q751 : Cond.code ⟨"SealFaces$Reader", "acceptLevels", "([II)V"⟩ prog_7_method_13_code 4 none ∈ ab_good := ab_mg sb_t3 160 rfl rfl
set_option maxRecDepth 20000 in
theorem q752 : Cond.methodLinkNest "SealFaces$Reader" 121 ⟨"SealFaces", "put", "([III)V"⟩ "SealFaces" ∈ ab_nest := ab_mn sb_t3 161 rfl rfl
set_option maxRecDepth 20000 in
theorem q753 : Cond.methodLinkNest "SealFaces$Reader" 114 ⟨"SealFaces", "putLong", "([JIJ)V"⟩ "SealFaces" ∈ ab_nest := ab_mn sb_t3 162 rfl rfl
set_option maxRecDepth 20000 in
theorem q754 : Cond.methodLink "SealFaces$Reader" 125 ⟨"java/lang/Math", "min", "(II)I"⟩ ∈ ab_good := ab_mg sb_t3 163 rfl rfl
set_option maxRecDepth 20000 in
theorem q755 : Cond.methodLink "SealFaces$Reader" 55 ⟨"SealFaces$Reader", "parseDeed", "(LSealFaces$Text;)V"⟩ ∈ ab_good := ab_mg sb_t3 164 rfl rfl
set_option maxRecDepth 20000 in
theorem q757 : Cond.instanceMethod ⟨"SealFaces$Reader", "parseDeed", "(LSealFaces$Text;)V"⟩ ∈ ab_good := ab_mg sb_t3 166 rfl rfl
set_option maxRecDepth 20000 in
theorem q758 : Cond.code ⟨"SealFaces$Reader", "parseDeed", "(LSealFaces$Text;)V"⟩ prog_7_method_5_code 6 none ∈ ab_good := ab_mg sb_t3 167 rfl rfl
set_option maxRecDepth 20000 in
theorem q759 : Cond.methodLink "SealFaces$Reader" 58 ⟨"SealFaces$Reader", "parseTreaty", "(LSealFaces$Text;)V"⟩ ∈ ab_good := ab_mg sb_t3 168 rfl rfl
set_option maxRecDepth 20000 in
theorem q761 : Cond.instanceMethod ⟨"SealFaces$Reader", "parseTreaty", "(LSealFaces$Text;)V"⟩ ∈ ab_good := ab_mg sb_t3 170 rfl rfl
set_option maxRecDepth 20000 in
theorem q762 : Cond.code ⟨"SealFaces$Reader", "parseTreaty", "(LSealFaces$Text;)V"⟩ prog_7_method_6_code 6 none ∈ ab_good := ab_mg sb_t3 171 rfl rfl
set_option maxRecDepth 20000 in
theorem q763 : Cond.methodLink "SealFaces$Reader" 146 ⟨"SealFaces$Reader", "acceptDeed", "(LSealFaces$Text;)I"⟩ ∈ ab_good := ab_mg sb_t3 172 rfl rfl
set_option maxRecDepth 20000 in
theorem q765 : Cond.instanceMethod ⟨"SealFaces$Reader", "acceptDeed", "(LSealFaces$Text;)I"⟩ ∈ ab_good := ab_mg sb_t3 174 rfl rfl
set_option maxRecDepth 20000 in
theorem q766 : Cond.code ⟨"SealFaces$Reader", "acceptDeed", "(LSealFaces$Text;)I"⟩ prog_7_method_15_code 4 (some .int) ∈ ab_good := ab_mg sb_t3 175 rfl rfl
set_option maxRecDepth 20000 in
theorem q767 : Cond.methodLink "SealFaces$Reader" 187 ⟨"SealFaces$Text", "deedNamed", "(J)I"⟩ ∈ ab_good := ab_mg sb_t3 176 rfl rfl
set_option maxRecDepth 20000 in
theorem q768 : Cond.methodLink "SealFaces$Reader" 65 ⟨"SealFaces$Reader", "parseLaw", "(LSealFaces$Law;)V"⟩ ∈ ab_good := ab_mg sb_t3 177 rfl rfl
set_option maxRecDepth 20000 in
theorem q770 : Cond.instanceMethod ⟨"SealFaces$Reader", "parseLaw", "(LSealFaces$Law;)V"⟩ ∈ ab_good := ab_mg sb_t3 179 rfl rfl
set_option maxRecDepth 20000 in
theorem q771 : Cond.code ⟨"SealFaces$Reader", "parseLaw", "(LSealFaces$Law;)V"⟩ prog_7_method_7_code 3 none ∈ ab_good := ab_mg sb_t3 180 rfl rfl
set_option maxRecDepth 20000 in
theorem q772 : Cond.methodLink "SealFaces$Reader" 157 ⟨"SealFaces$Law", "clear", "()V"⟩ ∈ ab_good := ab_mg sb_t3 181 rfl rfl
set_option maxRecDepth 20000 in
theorem q773 : Cond.methodLink "SealFaces$Reader" 160 ⟨"SealFaces$Reader", "parseSum", "(LSealFaces$Law;I)V"⟩ ∈ ab_good := ab_mg sb_t3 182 rfl rfl
set_option maxRecDepth 20000 in
theorem q775 : Cond.instanceMethod ⟨"SealFaces$Reader", "parseSum", "(LSealFaces$Law;I)V"⟩ ∈ ab_good := ab_mg sb_t3 184 rfl rfl
set_option maxRecDepth 20000 in
theorem q776 : Cond.code ⟨"SealFaces$Reader", "parseSum", "(LSealFaces$Law;I)V"⟩ prog_7_method_8_code 5 none ∈ ab_good := ab_mg sb_t3 185 rfl rfl
set_option maxRecDepth 20000 in
theorem q777 : Cond.methodLink "SealFaces$Reader" 167 ⟨"SealFaces$Reader", "parseProduct", "(LSealFaces$Law;I)V"⟩ ∈ ab_good := ab_mg sb_t3 186 rfl rfl
set_option maxRecDepth 20000 in
theorem q779 : Cond.instanceMethod ⟨"SealFaces$Reader", "parseProduct", "(LSealFaces$Law;I)V"⟩ ∈ ab_good := ab_mg sb_t3 188 rfl rfl
set_option maxRecDepth 20000 in
theorem q780 : Cond.code ⟨"SealFaces$Reader", "parseProduct", "(LSealFaces$Law;I)V"⟩ prog_7_method_9_code 5 none ∈ ab_good := ab_mg sb_t3 189 rfl rfl
set_option maxRecDepth 20000 in
theorem q781 : Cond.methodLink "SealFaces$Reader" 173 ⟨"SealFaces$Reader", "parseUnit", "(LSealFaces$Law;I)V"⟩ ∈ ab_good := ab_mg sb_t3 190 rfl rfl
set_option maxRecDepth 20000 in
theorem q783 : Cond.instanceMethod ⟨"SealFaces$Reader", "parseUnit", "(LSealFaces$Law;I)V"⟩ ∈ ab_good := ab_mg sb_t3 192 rfl rfl
set_option maxRecDepth 20000 in
theorem q784 : Cond.code ⟨"SealFaces$Reader", "parseUnit", "(LSealFaces$Law;I)V"⟩ prog_7_method_10_code 3 none ∈ ab_good := ab_mg sb_t3 193 rfl rfl
set_option maxRecDepth 20000 in
theorem q785 : Cond.methodLink "SealFaces$Reader" 170 ⟨"SealFaces$Law", "add", "(I)V"⟩ ∈ ab_good := ab_mg sb_t3 194 rfl rfl
set_option maxRecDepth 20000 in
theorem q786 : Cond.methodLink "SealFaces$Reader" 164 ⟨"SealFaces$Law", "endPart", "()V"⟩ ∈ ab_good := ab_mg sb_t3 195 rfl rfl
set_option maxRecDepth 20000 in
theorem q787 : Cond.methodLink "SealFaces$Reader" 49 ⟨"SealFaces$Tokens", "placeAt", "(I)I"⟩ ∈ ab_good := ab_mg sb_t3 196 rfl rfl
set_option maxRecDepth 20000 in
theorem q788 : Cond.instanceMethod ⟨"SealFaces$Tokens", "placeAt", "(I)I"⟩ ∈ ab_good := ab_mg sb_t3 197 rfl rfl
set_option maxRecDepth 20000 in
theorem q789 : Cond.selects "SealFaces$Tokens" ⟨"SealFaces$Tokens", "placeAt", "(I)I"⟩ ⟨"SealFaces$Tokens", "placeAt", "(I)I"⟩ ∈ ab_good := ab_mg sb_t3 198 rfl rfl
set_option maxRecDepth 20000 in
theorem q790 : Cond.code ⟨"SealFaces$Tokens", "placeAt", "(I)I"⟩ prog_11_method_4_code 2 (some .int) ∈ ab_good := ab_mg sb_t3 199 rfl rfl
set_option maxRecDepth 20000 in
theorem q791 : Cond.methodLink "SealFaces" 103 ⟨"SealFaces$Hall", "begin", "(LSealFaces$Text;)LSealFaces$Text;"⟩ ∈ ab_good := ab_mg sb_t3 200 rfl rfl
set_option maxRecDepth 20000 in
theorem q792 : Cond.instanceMethod ⟨"SealFaces$Hall", "begin", "(LSealFaces$Text;)LSealFaces$Text;"⟩ ∈ ab_good := ab_mg sb_t3 201 rfl rfl
set_option maxRecDepth 20000 in
theorem q793 : Cond.selects "SealFaces$Hall" ⟨"SealFaces$Hall", "begin", "(LSealFaces$Text;)LSealFaces$Text;"⟩ ⟨"SealFaces$Hall", "begin", "(LSealFaces$Text;)LSealFaces$Text;"⟩ ∈ ab_good := ab_mg sb_t3 202 rfl rfl
set_option maxRecDepth 20000 in
theorem q794 : Cond.code ⟨"SealFaces$Hall", "begin", "(LSealFaces$Text;)LSealFaces$Text;"⟩ prog_3_method_2_code 5 (some (.object "SealFaces$Text")) ∈ ab_good := ab_mg sb_t3 203 rfl rfl
set_option maxRecDepth 20000 in
theorem q795 : Cond.methodLink "SealFaces$Hall" 32 ⟨"SealFaces$Text", "firstOf", "(II)I"⟩ ∈ ab_good := ab_mg sb_t3 204 rfl rfl
set_option maxRecDepth 20000 in
theorem q796 : Cond.instanceMethod ⟨"SealFaces$Text", "firstOf", "(II)I"⟩ ∈ ab_good := ab_mg sb_t3 205 rfl rfl
set_option maxRecDepth 20000 in
theorem q797 : Cond.selects "SealFaces$Text" ⟨"SealFaces$Text", "firstOf", "(II)I"⟩ ⟨"SealFaces$Text", "firstOf", "(II)I"⟩ ∈ ab_good := ab_mg sb_t3 206 rfl rfl
set_option maxRecDepth 20000 in
theorem q798 : Cond.code ⟨"SealFaces$Text", "firstOf", "(II)I"⟩ prog_10_method_3_code 3 (some .int) ∈ ab_good := ab_mg sb_t3 207 rfl rfl
set_option maxRecDepth 20000 in
theorem q799 : Cond.methodLinkNest "SealFaces$Text" 73 ⟨"SealFaces", "at", "([II)I"⟩ "SealFaces" ∈ ab_nest := ab_mn sb_t3 208 rfl rfl
set_option maxRecDepth 20000 in
theorem q800 : Cond.static ⟨"SealFaces", "at", "([II)I"⟩ ∈ ab_good := ab_mg sb_t3 209 rfl rfl
set_option maxRecDepth 20000 in
theorem q801 : Cond.code ⟨"SealFaces", "at", "([II)I"⟩ prog_1_method_52_code 2 (some .int) ∈ ab_good := ab_mg sb_t3 210 rfl rfl
set_option maxRecDepth 20000 in
theorem q802 : Cond.methodLink "SealFaces$Hall" 36 ⟨"SealFaces$Scene", "setLevel", "(III)V"⟩ ∈ ab_good := ab_mg sb_t3 211 rfl rfl
set_option maxRecDepth 20000 in
theorem q803 : Cond.instanceMethod ⟨"SealFaces$Scene", "setLevel", "(III)V"⟩ ∈ ab_good := ab_mg sb_t3 212 rfl rfl
set_option maxRecDepth 20000 in
theorem q804 : Cond.selects "SealFaces$Scene" ⟨"SealFaces$Scene", "setLevel", "(III)V"⟩ ⟨"SealFaces$Scene", "setLevel", "(III)V"⟩ ∈ ab_good := ab_mg sb_t3 213 rfl rfl
set_option maxRecDepth 20000 in
theorem q805 : Cond.code ⟨"SealFaces$Scene", "setLevel", "(III)V"⟩ prog_8_method_6_code 4 none ∈ ab_good := ab_mg sb_t3 214 rfl rfl
set_option maxRecDepth 20000 in
theorem q806 : Cond.methodLinkNest "SealFaces$Scene" 23 ⟨"SealFaces", "put", "([III)V"⟩ "SealFaces" ∈ ab_nest := ab_mn sb_t3 215 rfl rfl
set_option maxRecDepth 20000 in
theorem q807 : Cond.methodLink "SealFaces$Hall" 40 ⟨"SealFaces$Hall", "putOpen", "(I)V"⟩ ∈ ab_good := ab_mg sb_t3 216 rfl rfl
set_option maxRecDepth 20000 in
theorem q808 : Cond.instanceMethod ⟨"SealFaces$Hall", "putOpen", "(I)V"⟩ ∈ ab_good := ab_mg sb_t3 217 rfl rfl
set_option maxRecDepth 20000 in
theorem q809 : Cond.selects "SealFaces$Hall" ⟨"SealFaces$Hall", "putOpen", "(I)V"⟩ ⟨"SealFaces$Hall", "putOpen", "(I)V"⟩ ∈ ab_good := ab_mg sb_t3 218 rfl rfl
set_option maxRecDepth 20000 in
theorem q810 : Cond.code ⟨"SealFaces$Hall", "putOpen", "(I)V"⟩ prog_3_method_19_code 3 none ∈ ab_good := ab_mg sb_t3 219 rfl rfl
set_option maxRecDepth 20000 in
theorem q811 : Cond.methodLink "SealFaces$Hall" 143 ⟨"SealFaces$Scene", "setPrint", "(III)V"⟩ ∈ ab_good := ab_mg sb_t3 220 rfl rfl
set_option maxRecDepth 20000 in
theorem q812 : Cond.instanceMethod ⟨"SealFaces$Scene", "setPrint", "(III)V"⟩ ∈ ab_good := ab_mg sb_t3 221 rfl rfl
set_option maxRecDepth 20000 in
theorem q813 : Cond.selects "SealFaces$Scene" ⟨"SealFaces$Scene", "setPrint", "(III)V"⟩ ⟨"SealFaces$Scene", "setPrint", "(III)V"⟩ ∈ ab_good := ab_mg sb_t3 222 rfl rfl
set_option maxRecDepth 20000 in
theorem q814 : Cond.code ⟨"SealFaces$Scene", "setPrint", "(III)V"⟩ prog_8_method_7_code 4 none ∈ ab_good := ab_mg sb_t3 223 rfl rfl
set_option maxRecDepth 20000 in
theorem q815 : Cond.methodLink "SealFaces$Hall" 146 ⟨"SealFaces$Scene", "setSealer", "(II)V"⟩ ∈ ab_good := ab_mg sb_t3 224 rfl rfl
set_option maxRecDepth 20000 in
theorem q816 : Cond.instanceMethod ⟨"SealFaces$Scene", "setSealer", "(II)V"⟩ ∈ ab_good := ab_mg sb_t3 225 rfl rfl
set_option maxRecDepth 20000 in
theorem q817 : Cond.selects "SealFaces$Scene" ⟨"SealFaces$Scene", "setSealer", "(II)V"⟩ ⟨"SealFaces$Scene", "setSealer", "(II)V"⟩ ∈ ab_good := ab_mg sb_t3 226 rfl rfl
set_option maxRecDepth 20000 in
theorem q818 : Cond.code ⟨"SealFaces$Scene", "setSealer", "(II)V"⟩ prog_8_method_8_code 3 none ∈ ab_good := ab_mg sb_t3 227 rfl rfl
set_option maxRecDepth 20000 in
theorem q819 : Cond.methodLink "SealFaces$Hall" 44 ⟨"SealFaces$Scene", "setYear", "(I)V"⟩ ∈ ab_good := ab_mg sb_t3 228 rfl rfl
set_option maxRecDepth 20000 in
theorem q820 : Cond.instanceMethod ⟨"SealFaces$Scene", "setYear", "(I)V"⟩ ∈ ab_good := ab_mg sb_t3 229 rfl rfl
set_option maxRecDepth 20000 in
theorem q821 : Cond.selects "SealFaces$Scene" ⟨"SealFaces$Scene", "setYear", "(I)V"⟩ ⟨"SealFaces$Scene", "setYear", "(I)V"⟩ ∈ ab_good := ab_mg sb_t3 230 rfl rfl
set_option maxRecDepth 20000 in
theorem q822 : Cond.code ⟨"SealFaces$Scene", "setYear", "(I)V"⟩ prog_8_method_9_code 2 none ∈ ab_good := ab_mg sb_t3 231 rfl rfl
set_option maxRecDepth 20000 in
theorem q823 : Cond.methodLink "SealFaces" 107 ⟨"SealFaces$Memory", "clearAll", "()V"⟩ ∈ ab_good := ab_mg sb_t3 232 rfl rfl
set_option maxRecDepth 20000 in
theorem q824 : Cond.instanceMethod ⟨"SealFaces$Memory", "clearAll", "()V"⟩ ∈ ab_good := ab_mg sb_t3 233 rfl rfl
set_option maxRecDepth 20000 in
theorem q825 : Cond.selects "SealFaces$Memory" ⟨"SealFaces$Memory", "clearAll", "()V"⟩ ⟨"SealFaces$Memory", "clearAll", "()V"⟩ ∈ ab_good := ab_mg sb_t3 234 rfl rfl
set_option maxRecDepth 20000 in
theorem q826 : Cond.code ⟨"SealFaces$Memory", "clearAll", "()V"⟩ prog_5_method_2_code 1 none ∈ ab_good := ab_mg sb_t3 235 rfl rfl
set_option maxRecDepth 20000 in
theorem q827 : Cond.methodLink "SealFaces" 110 ⟨"SealFaces$Told", "drop", "()I"⟩ ∈ ab_good := ab_mg sb_t3 236 rfl rfl
set_option maxRecDepth 20000 in
theorem q828 : Cond.instanceMethod ⟨"SealFaces$Told", "drop", "()I"⟩ ∈ ab_good := ab_mg sb_t3 237 rfl rfl
set_option maxRecDepth 20000 in
theorem q829 : Cond.selects "SealFaces$Told" ⟨"SealFaces$Told", "drop", "()I"⟩ ⟨"SealFaces$Told", "drop", "()I"⟩ ∈ ab_good := ab_mg sb_t3 238 rfl rfl
set_option maxRecDepth 20000 in
theorem q830 : Cond.code ⟨"SealFaces$Told", "drop", "()I"⟩ prog_12_method_3_code 2 (some .int) ∈ ab_good := ab_mg sb_t3 239 rfl rfl
set_option maxRecDepth 20000 in
theorem q831 : Cond.methodLink "SealFacesLaw" 28 ⟨"SealFaces", "place", "()I"⟩ ∈ ab_good := ab_mg sb_t4 0 rfl rfl
set_option maxRecDepth 20000 in
theorem q832 : Cond.instanceMethod ⟨"SealFaces", "place", "()I"⟩ ∈ ab_good := ab_mg sb_t4 1 rfl rfl
set_option maxRecDepth 20000 in
theorem q833 : Cond.selects "SealFaces" ⟨"SealFaces", "place", "()I"⟩ ⟨"SealFaces", "place", "()I"⟩ ∈ ab_good := ab_mg sb_t4 2 rfl rfl
set_option maxRecDepth 20000 in
theorem q834 : Cond.code ⟨"SealFaces", "place", "()I"⟩ prog_1_method_5_code 1 (some .int) ∈ ab_good := ab_mg sb_t4 3 rfl rfl
set_option maxRecDepth 20000 in
theorem q835 : Cond.methodLink "SealFacesLaw" 32 ⟨"SealFaces", "clerk", "(II)I"⟩ ∈ ab_good := ab_mg sb_t4 4 rfl rfl
set_option maxRecDepth 20000 in
theorem q836 : Cond.instanceMethod ⟨"SealFaces", "clerk", "(II)I"⟩ ∈ ab_good := ab_mg sb_t4 5 rfl rfl
set_option maxRecDepth 20000 in
theorem q837 : Cond.selects "SealFaces" ⟨"SealFaces", "clerk", "(II)I"⟩ ⟨"SealFaces", "clerk", "(II)I"⟩ ∈ ab_good := ab_mg sb_t4 6 rfl rfl
set_option maxRecDepth 20000 in
theorem q838 : Cond.code ⟨"SealFaces", "clerk", "(II)I"⟩ prog_1_method_6_code 3 (some .int) ∈ ab_good := ab_mg sb_t4 7 rfl rfl
set_option maxRecDepth 20000 in
theorem q839 : Cond.methodLink "SealFaces" 113 ⟨"SealFaces$Hall", "isClerk", "(I)Z"⟩ ∈ ab_good := ab_mg sb_t4 8 rfl rfl
set_option maxRecDepth 20000 in
theorem q840 : Cond.instanceMethod ⟨"SealFaces$Hall", "isClerk", "(I)Z"⟩ ∈ ab_good := ab_mg sb_t4 9 rfl rfl
set_option maxRecDepth 20000 in
theorem q841 : Cond.selects "SealFaces$Hall" ⟨"SealFaces$Hall", "isClerk", "(I)Z"⟩ ⟨"SealFaces$Hall", "isClerk", "(I)Z"⟩ ∈ ab_good := ab_mg sb_t4 10 rfl rfl
set_option maxRecDepth 20000 in
theorem q842 : Cond.code ⟨"SealFaces$Hall", "isClerk", "(I)Z"⟩ prog_3_method_3_code 2 (some .boolean) ∈ ab_good := ab_mg sb_t4 11 rfl rfl
set_option maxRecDepth 20000 in
theorem q843 : Cond.methodLink "SealFaces" 120 ⟨"SealFaces$Scene", "levelOf", "(II)I"⟩ ∈ ab_good := ab_mg sb_t4 12 rfl rfl
set_option maxRecDepth 20000 in
theorem q844 : Cond.instanceMethod ⟨"SealFaces$Scene", "levelOf", "(II)I"⟩ ∈ ab_good := ab_mg sb_t4 13 rfl rfl
set_option maxRecDepth 20000 in
theorem q845 : Cond.selects "SealFaces$Scene" ⟨"SealFaces$Scene", "levelOf", "(II)I"⟩ ⟨"SealFaces$Scene", "levelOf", "(II)I"⟩ ∈ ab_good := ab_mg sb_t4 14 rfl rfl
set_option maxRecDepth 20000 in
theorem q846 : Cond.code ⟨"SealFaces$Scene", "levelOf", "(II)I"⟩ prog_8_method_2_code 3 (some .int) ∈ ab_good := ab_mg sb_t4 15 rfl rfl
set_option maxRecDepth 20000 in
theorem q847 : Cond.methodLinkNest "SealFaces$Scene" 19 ⟨"SealFaces", "at", "([II)I"⟩ "SealFaces" ∈ ab_nest := ab_mn sb_t4 16 rfl rfl
set_option maxRecDepth 20000 in
theorem q848 : Cond.methodLink "SealFaces" 129 ⟨"SealFaces$Text", "firstOf", "(II)I"⟩ ∈ ab_good := ab_mg sb_t4 17 rfl rfl
set_option maxRecDepth 20000 in
theorem q849 : Cond.methodLink "SealFaces" 132 ⟨"SealFaces$Scene", "yearNow", "()I"⟩ ∈ ab_good := ab_mg sb_t4 18 rfl rfl
set_option maxRecDepth 20000 in
theorem q850 : Cond.instanceMethod ⟨"SealFaces$Scene", "yearNow", "()I"⟩ ∈ ab_good := ab_mg sb_t4 19 rfl rfl
set_option maxRecDepth 20000 in
theorem q851 : Cond.selects "SealFaces$Scene" ⟨"SealFaces$Scene", "yearNow", "()I"⟩ ⟨"SealFaces$Scene", "yearNow", "()I"⟩ ∈ ab_good := ab_mg sb_t4 20 rfl rfl
set_option maxRecDepth 20000 in
theorem q852 : Cond.code ⟨"SealFaces$Scene", "yearNow", "()I"⟩ prog_8_method_5_code 1 (some .int) ∈ ab_good := ab_mg sb_t4 21 rfl rfl
set_option maxRecDepth 20000 in
theorem q853 : Cond.methodLink "SealFaces" 135 ⟨"SealFaces$Hall", "ageIn", "(II)I"⟩ ∈ ab_good := ab_mg sb_t4 22 rfl rfl
set_option maxRecDepth 20000 in
theorem q854 : Cond.instanceMethod ⟨"SealFaces$Hall", "ageIn", "(II)I"⟩ ∈ ab_good := ab_mg sb_t4 23 rfl rfl
set_option maxRecDepth 20000 in
theorem q855 : Cond.selects "SealFaces$Hall" ⟨"SealFaces$Hall", "ageIn", "(II)I"⟩ ⟨"SealFaces$Hall", "ageIn", "(II)I"⟩ ∈ ab_good := ab_mg sb_t4 24 rfl rfl
set_option maxRecDepth 20000 in
theorem q856 : Cond.code ⟨"SealFaces$Hall", "ageIn", "(II)I"⟩ prog_3_method_7_code 3 (some .int) ∈ ab_good := ab_mg sb_t4 25 rfl rfl
set_option maxRecDepth 20000 in
theorem q857 : Cond.methodLinkNest "SealFaces$Hall" 65 ⟨"SealFaces", "at", "([II)I"⟩ "SealFaces" ∈ ab_nest := ab_mn sb_t4 26 rfl rfl
set_option maxRecDepth 20000 in
theorem q858 : Cond.methodLink "SealFaces" 138 ⟨"SealFaces$Hall", "sealedBy", "(I)I"⟩ ∈ ab_good := ab_mg sb_t4 27 rfl rfl
set_option maxRecDepth 20000 in
theorem q859 : Cond.instanceMethod ⟨"SealFaces$Hall", "sealedBy", "(I)I"⟩ ∈ ab_good := ab_mg sb_t4 28 rfl rfl
set_option maxRecDepth 20000 in
theorem q860 : Cond.selects "SealFaces$Hall" ⟨"SealFaces$Hall", "sealedBy", "(I)I"⟩ ⟨"SealFaces$Hall", "sealedBy", "(I)I"⟩ ∈ ab_good := ab_mg sb_t4 29 rfl rfl
set_option maxRecDepth 20000 in
theorem q861 : Cond.code ⟨"SealFaces$Hall", "sealedBy", "(I)I"⟩ prog_3_method_10_code 2 (some .int) ∈ ab_good := ab_mg sb_t4 30 rfl rfl
set_option maxRecDepth 20000 in
theorem q862 : Cond.methodLink "SealFaces$Hall" 69 ⟨"SealFaces$Hall", "deedsWith", "(I)I"⟩ ∈ ab_good := ab_mg sb_t4 31 rfl rfl
set_option maxRecDepth 20000 in
theorem q863 : Cond.instanceMethod ⟨"SealFaces$Hall", "deedsWith", "(I)I"⟩ ∈ ab_good := ab_mg sb_t4 32 rfl rfl
set_option maxRecDepth 20000 in
theorem q864 : Cond.selects "SealFaces$Hall" ⟨"SealFaces$Hall", "deedsWith", "(I)I"⟩ ⟨"SealFaces$Hall", "deedsWith", "(I)I"⟩ ∈ ab_good := ab_mg sb_t4 33 rfl rfl
set_option maxRecDepth 20000 in
theorem q865 : Cond.code ⟨"SealFaces$Hall", "deedsWith", "(I)I"⟩ prog_3_method_8_code 4 (some .int) ∈ ab_good := ab_mg sb_t4 34 rfl rfl
set_option maxRecDepth 20000 in
theorem q866 : Cond.methodLink "SealFaces$Hall" 58 ⟨"SealFaces$Scene", "sealerOf", "(I)I"⟩ ∈ ab_good := ab_mg sb_t4 35 rfl rfl
set_option maxRecDepth 20000 in
theorem q867 : Cond.instanceMethod ⟨"SealFaces$Scene", "sealerOf", "(I)I"⟩ ∈ ab_good := ab_mg sb_t4 36 rfl rfl
set_option maxRecDepth 20000 in
theorem q868 : Cond.selects "SealFaces$Scene" ⟨"SealFaces$Scene", "sealerOf", "(I)I"⟩ ⟨"SealFaces$Scene", "sealerOf", "(I)I"⟩ ∈ ab_good := ab_mg sb_t4 37 rfl rfl
set_option maxRecDepth 20000 in
theorem q869 : Cond.code ⟨"SealFaces$Scene", "sealerOf", "(I)I"⟩ prog_8_method_4_code 2 (some .int) ∈ ab_good := ab_mg sb_t4 38 rfl rfl
set_option maxRecDepth 20000 in
theorem q870 : Cond.methodLink "SealFaces$Hall" 72 ⟨"java/lang/Integer", "bitCount", "(I)I"⟩ ∈ ab_good := ab_mg sb_t4 39 rfl rfl
set_option maxRecDepth 20000 in
theorem q871 : Cond.static ⟨"java/lang/Integer", "bitCount", "(I)I"⟩ ∈ ab_good := ab_mg sb_t4 40 rfl rfl
set_option maxRecDepth 20000 in
theorem q872 : Cond.code ⟨"java/lang/Integer", "bitCount", "(I)I"⟩ prog_16_method_49_code 1 (some .int) ∈ ab_good := ab_mg sb_t4 41 rfl rfl
set_option maxRecDepth 20000 in
theorem q873 : Cond.constant "java/lang/Integer" 265 (1431655765) ∈ ab_good := ab_mg sb_t4 42 rfl rfl
set_option maxRecDepth 20000 in
theorem q874 : Cond.constant "java/lang/Integer" 266 (858993459) ∈ ab_good := ab_mg sb_t4 43 rfl rfl
set_option maxRecDepth 20000 in
theorem q875 : Cond.constant "java/lang/Integer" 267 (252645135) ∈ ab_good := ab_mg sb_t4 44 rfl rfl
set_option maxRecDepth 20000 in
theorem q876 : Cond.methodLink "SealFaces" 142 ⟨"SealFaces$Hall", "deedsOf", "(I)I"⟩ ∈ ab_good := ab_mg sb_t4 45 rfl rfl
set_option maxRecDepth 20000 in
theorem q877 : Cond.instanceMethod ⟨"SealFaces$Hall", "deedsOf", "(I)I"⟩ ∈ ab_good := ab_mg sb_t4 46 rfl rfl
set_option maxRecDepth 20000 in
theorem q878 : Cond.selects "SealFaces$Hall" ⟨"SealFaces$Hall", "deedsOf", "(I)I"⟩ ⟨"SealFaces$Hall", "deedsOf", "(I)I"⟩ ∈ ab_good := ab_mg sb_t4 47 rfl rfl
set_option maxRecDepth 20000 in
theorem q879 : Cond.code ⟨"SealFaces$Hall", "deedsOf", "(I)I"⟩ prog_3_method_9_code 2 (some .int) ∈ ab_good := ab_mg sb_t4 48 rfl rfl
set_option maxRecDepth 20000 in
theorem q880 : Cond.methodLink "SealFacesLaw" 37 ⟨"SealFaces", "deed", "(II)I"⟩ ∈ ab_good := ab_mg sb_t4 49 rfl rfl
set_option maxRecDepth 20000 in
theorem q881 : Cond.instanceMethod ⟨"SealFaces", "deed", "(II)I"⟩ ∈ ab_good := ab_mg sb_t4 50 rfl rfl
set_option maxRecDepth 20000 in
theorem q882 : Cond.selects "SealFaces" ⟨"SealFaces", "deed", "(II)I"⟩ ⟨"SealFaces", "deed", "(II)I"⟩ ∈ ab_good := ab_mg sb_t4 51 rfl rfl
set_option maxRecDepth 20000 in
theorem q883 : Cond.code ⟨"SealFaces", "deed", "(II)I"⟩ prog_1_method_7_code 3 (some .int) ∈ ab_good := ab_mg sb_t4 52 rfl rfl
set_option maxRecDepth 20000 in
theorem q884 : Cond.methodLink "SealFaces" 145 ⟨"SealFaces$Hall", "isDeed", "(I)Z"⟩ ∈ ab_good := ab_mg sb_t4 53 rfl rfl
set_option maxRecDepth 20000 in
theorem q885 : Cond.instanceMethod ⟨"SealFaces$Hall", "isDeed", "(I)Z"⟩ ∈ ab_good := ab_mg sb_t4 54 rfl rfl
set_option maxRecDepth 20000 in
theorem q886 : Cond.selects "SealFaces$Hall" ⟨"SealFaces$Hall", "isDeed", "(I)Z"⟩ ⟨"SealFaces$Hall", "isDeed", "(I)Z"⟩ ∈ ab_good := ab_mg sb_t4 55 rfl rfl
set_option maxRecDepth 20000 in
theorem q887 : Cond.code ⟨"SealFaces$Hall", "isDeed", "(I)Z"⟩ prog_3_method_4_code 2 (some .boolean) ∈ ab_good := ab_mg sb_t4 56 rfl rfl
set_option maxRecDepth 20000 in
theorem q888 : Cond.methodLink "SealFaces" 148 ⟨"SealFaces$Text", "needOf", "(II)I"⟩ ∈ ab_good := ab_mg sb_t4 57 rfl rfl
set_option maxRecDepth 20000 in
theorem q889 : Cond.instanceMethod ⟨"SealFaces$Text", "needOf", "(II)I"⟩ ∈ ab_good := ab_mg sb_t4 58 rfl rfl
set_option maxRecDepth 20000 in
theorem q890 : Cond.selects "SealFaces$Text" ⟨"SealFaces$Text", "needOf", "(II)I"⟩ ⟨"SealFaces$Text", "needOf", "(II)I"⟩ ∈ ab_good := ab_mg sb_t4 59 rfl rfl
set_option maxRecDepth 20000 in
theorem q891 : Cond.code ⟨"SealFaces$Text", "needOf", "(II)I"⟩ prog_10_method_5_code 3 (some .int) ∈ ab_good := ab_mg sb_t4 60 rfl rfl
set_option maxRecDepth 20000 in
theorem q892 : Cond.methodLink "SealFaces" 151 ⟨"SealFaces$Scene", "printOf", "(II)I"⟩ ∈ ab_good := ab_mg sb_t4 61 rfl rfl
set_option maxRecDepth 20000 in
theorem q893 : Cond.instanceMethod ⟨"SealFaces$Scene", "printOf", "(II)I"⟩ ∈ ab_good := ab_mg sb_t4 62 rfl rfl
set_option maxRecDepth 20000 in
theorem q894 : Cond.selects "SealFaces$Scene" ⟨"SealFaces$Scene", "printOf", "(II)I"⟩ ⟨"SealFaces$Scene", "printOf", "(II)I"⟩ ∈ ab_good := ab_mg sb_t4 63 rfl rfl
set_option maxRecDepth 20000 in
theorem q895 : Cond.code ⟨"SealFaces$Scene", "printOf", "(II)I"⟩ prog_8_method_3_code 3 (some .int) ∈ ab_good := ab_mg sb_t4 64 rfl rfl
set_option maxRecDepth 20000 in
theorem q896 : Cond.methodLink "SealFaces" 154 ⟨"SealFaces$Text", "worthOf", "(I)I"⟩ ∈ ab_good := ab_mg sb_t4 65 rfl rfl
set_option maxRecDepth 20000 in
theorem q897 : Cond.instanceMethod ⟨"SealFaces$Text", "worthOf", "(I)I"⟩ ∈ ab_good := ab_mg sb_t4 66 rfl rfl
set_option maxRecDepth 20000 in
theorem q898 : Cond.selects "SealFaces$Text" ⟨"SealFaces$Text", "worthOf", "(I)I"⟩ ⟨"SealFaces$Text", "worthOf", "(I)I"⟩ ∈ ab_good := ab_mg sb_t4 67 rfl rfl
set_option maxRecDepth 20000 in
theorem q899 : Cond.code ⟨"SealFaces$Text", "worthOf", "(I)I"⟩ prog_10_method_4_code 2 (some .int) ∈ ab_good := ab_mg sb_t4 68 rfl rfl
set_option maxRecDepth 20000 in
theorem q900 : Cond.methodLink "SealFaces" 157 ⟨"SealFaces$Scene", "sealerOf", "(I)I"⟩ ∈ ab_good := ab_mg sb_t4 69 rfl rfl
set_option maxRecDepth 20000 in
theorem q901 : Cond.methodLink "SealFaces" 160 ⟨"SealFaces$Hall", "bindsAfter", "(II)I"⟩ ∈ ab_good := ab_mg sb_t4 70 rfl rfl
set_option maxRecDepth 20000 in
theorem q902 : Cond.instanceMethod ⟨"SealFaces$Hall", "bindsAfter", "(II)I"⟩ ∈ ab_good := ab_mg sb_t4 71 rfl rfl
set_option maxRecDepth 20000 in
theorem q903 : Cond.selects "SealFaces$Hall" ⟨"SealFaces$Hall", "bindsAfter", "(II)I"⟩ ⟨"SealFaces$Hall", "bindsAfter", "(II)I"⟩ ∈ ab_good := ab_mg sb_t4 72 rfl rfl
set_option maxRecDepth 20000 in
theorem q904 : Cond.code ⟨"SealFaces$Hall", "bindsAfter", "(II)I"⟩ prog_3_method_25_code 5 (some .int) ∈ ab_good := ab_mg sb_t4 73 rfl rfl
set_option maxRecDepth 20000 in
theorem q905 : Cond.methodLink "SealFaces$Hall" 167 ⟨"SealFaces$Hall", "isSealed", "(I)Z"⟩ ∈ ab_good := ab_mg sb_t4 74 rfl rfl
set_option maxRecDepth 20000 in
theorem q906 : Cond.instanceMethod ⟨"SealFaces$Hall", "isSealed", "(I)Z"⟩ ∈ ab_good := ab_mg sb_t4 75 rfl rfl
set_option maxRecDepth 20000 in
theorem q907 : Cond.selects "SealFaces$Hall" ⟨"SealFaces$Hall", "isSealed", "(I)Z"⟩ ⟨"SealFaces$Hall", "isSealed", "(I)Z"⟩ ∈ ab_good := ab_mg sb_t4 76 rfl rfl
set_option maxRecDepth 20000 in
theorem q908 : Cond.code ⟨"SealFaces$Hall", "isSealed", "(I)Z"⟩ prog_3_method_6_code 2 (some .boolean) ∈ ab_good := ab_mg sb_t4 77 rfl rfl
set_option maxRecDepth 20000 in
theorem q909 : Cond.methodLink "SealFaces$Hall" 54 ⟨"SealFaces$Hall", "isDeed", "(I)Z"⟩ ∈ ab_good := ab_mg sb_t4 78 rfl rfl
set_option maxRecDepth 20000 in
theorem q910 : Cond.methodLink "SealFaces$Hall" 154 ⟨"SealFaces$Hall", "printAfter", "(III)I"⟩ ∈ ab_good := ab_mg sb_t4 79 rfl rfl
set_option maxRecDepth 20000 in
theorem q911 : Cond.instanceMethod ⟨"SealFaces$Hall", "printAfter", "(III)I"⟩ ∈ ab_good := ab_mg sb_t4 80 rfl rfl
set_option maxRecDepth 20000 in
theorem q912 : Cond.selects "SealFaces$Hall" ⟨"SealFaces$Hall", "printAfter", "(III)I"⟩ ⟨"SealFaces$Hall", "printAfter", "(III)I"⟩ ∈ ab_good := ab_mg sb_t4 81 rfl rfl
set_option maxRecDepth 20000 in
theorem q913 : Cond.code ⟨"SealFaces$Hall", "printAfter", "(III)I"⟩ prog_3_method_22_code 6 (some .int) ∈ ab_good := ab_mg sb_t4 82 rfl rfl
set_option maxRecDepth 20000 in
theorem q914 : Cond.methodLink "SealFaces$Hall" 160 ⟨"SealFaces$Scene", "printOf", "(II)I"⟩ ∈ ab_good := ab_mg sb_t4 83 rfl rfl
set_option maxRecDepth 20000 in
theorem q915 : Cond.methodLink "SealFaces$Hall" 96 ⟨"SealFaces$Scene", "yearNow", "()I"⟩ ∈ ab_good := ab_mg sb_t4 84 rfl rfl
set_option maxRecDepth 20000 in
theorem q916 : Cond.methodLink "SealFaces$Hall" 163 ⟨"SealFaces$Hall", "faded", "(IIII)I"⟩ ∈ ab_good := ab_mg sb_t4 85 rfl rfl
set_option maxRecDepth 20000 in
theorem q918 : Cond.instanceMethod ⟨"SealFaces$Hall", "faded", "(IIII)I"⟩ ∈ ab_good := ab_mg sb_t4 87 rfl rfl
set_option maxRecDepth 20000 in
theorem q919 : Cond.code ⟨"SealFaces$Hall", "faded", "(IIII)I"⟩ prog_3_method_15_code 6 (some .int) ∈ ab_good := ab_mg sb_t4 88 rfl rfl
set_option maxRecDepth 20000 in
theorem q920 : Cond.methodLink "SealFaces$Hall" 87 ⟨"java/util/Arrays", "fill", "([II)V"⟩ ∈ ab_good := ab_mg sb_t4 89 rfl rfl
set_option maxRecDepth 20000 in
theorem q921 : Cond.static ⟨"java/util/Arrays", "fill", "([II)V"⟩ ∈ ab_good := ab_mg sb_t4 90 rfl rfl
set_option maxRecDepth 20000 in
theorem q922 : Cond.code ⟨"java/util/Arrays", "fill", "([II)V"⟩ prog_22_method_103_code 4 none ∈ ab_good := ab_mg sb_t4 91 rfl rfl
set_option maxRecDepth 20000 in
theorem q923 : Cond.methodLink "SealFaces$Hall" 93 ⟨"SealFaces$Text", "needOf", "(II)I"⟩ ∈ ab_good := ab_mg sb_t4 92 rfl rfl
set_option maxRecDepth 20000 in
theorem q924 : Cond.methodLink "SealFaces$Hall" 103 ⟨"SealFaces$Text", "worthOf", "(I)I"⟩ ∈ ab_good := ab_mg sb_t4 93 rfl rfl
set_option maxRecDepth 20000 in
theorem q925 : Cond.methodLink "SealFaces$Hall" 110 ⟨"SealFaces$Law", "valueOf", "([I)I"⟩ ∈ ab_good := ab_mg sb_t4 94 rfl rfl
set_option maxRecDepth 20000 in
theorem q926 : Cond.instanceMethod ⟨"SealFaces$Law", "valueOf", "([I)I"⟩ ∈ ab_good := ab_mg sb_t4 95 rfl rfl
set_option maxRecDepth 20000 in
theorem q927 : Cond.selects "SealFaces$Law" ⟨"SealFaces$Law", "valueOf", "([I)I"⟩ ⟨"SealFaces$Law", "valueOf", "([I)I"⟩ ∈ ab_good := ab_mg sb_t4 96 rfl rfl
set_option maxRecDepth 20000 in
theorem q928 : Cond.code ⟨"SealFaces$Law", "valueOf", "([I)I"⟩ prog_4_method_6_code 4 (some .int) ∈ ab_good := ab_mg sb_t4 97 rfl rfl
set_option maxRecDepth 20000 in
theorem q929 : Cond.methodLink "SealFaces$Law" 42 ⟨"SealFaces$Law", "partOf", "(I[I)I"⟩ ∈ ab_good := ab_mg sb_t4 98 rfl rfl
set_option maxRecDepth 20000 in
theorem q931 : Cond.instanceMethod ⟨"SealFaces$Law", "partOf", "(I[I)I"⟩ ∈ ab_good := ab_mg sb_t4 100 rfl rfl
set_option maxRecDepth 20000 in
theorem q932 : Cond.code ⟨"SealFaces$Law", "partOf", "(I[I)I"⟩ prog_4_method_7_code 8 (some .int) ∈ ab_good := ab_mg sb_t4 101 rfl rfl
set_option maxRecDepth 20000 in
theorem q933 : Cond.methodLink "SealFaces$Law" 46 ⟨"SealFaces$Law", "joined", "(III)I"⟩ ∈ ab_good := ab_mg sb_t4 102 rfl rfl
set_option maxRecDepth 20000 in
theorem q935 : Cond.instanceMethod ⟨"SealFaces$Law", "joined", "(III)I"⟩ ∈ ab_good := ab_mg sb_t4 104 rfl rfl
set_option maxRecDepth 20000 in
theorem q936 : Cond.code ⟨"SealFaces$Law", "joined", "(III)I"⟩ prog_4_method_8_code 4 (some .int) ∈ ab_good := ab_mg sb_t4 105 rfl rfl
set_option maxRecDepth 20000 in
theorem q937 : Cond.methodLinkNest "SealFaces$Hall" 116 ⟨"SealFaces", "heldTo", "(II)I"⟩ "SealFaces" ∈ ab_nest := ab_mn sb_t4 106 rfl rfl
set_option maxRecDepth 20000 in
theorem q938 : Cond.static ⟨"SealFaces", "heldTo", "(II)I"⟩ ∈ ab_good := ab_mg sb_t4 107 rfl rfl
set_option maxRecDepth 20000 in
theorem q939 : Cond.code ⟨"SealFaces", "heldTo", "(II)I"⟩ prog_1_method_51_code 2 (some .int) ∈ ab_good := ab_mg sb_t4 108 rfl rfl
set_option maxRecDepth 20000 in
theorem q940 : Cond.methodLink "SealFaces" 368 ⟨"java/lang/Math", "min", "(II)I"⟩ ∈ ab_good := ab_mg sb_t4 109 rfl rfl
set_option maxRecDepth 20000 in
theorem q941 : Cond.methodLink "SealFaces" 365 ⟨"java/lang/Math", "max", "(II)I"⟩ ∈ ab_good := ab_mg sb_t4 110 rfl rfl
set_option maxRecDepth 20000 in
theorem q942 : Cond.methodLink "SealFaces$Hall" 133 ⟨"java/lang/Math", "max", "(II)I"⟩ ∈ ab_good := ab_mg sb_t4 111 rfl rfl
set_option maxRecDepth 20000 in
theorem q943 : Cond.methodLink "SealFaces$Hall" 80 ⟨"SealFaces$Hall", "sealedBy", "(I)I"⟩ ∈ ab_good := ab_mg sb_t4 112 rfl rfl
set_option maxRecDepth 20000 in
theorem q944 : Cond.methodLink "SealFaces$Hall" 170 ⟨"SealFaces$Hall", "bindsOf", "(IIIII)I"⟩ ∈ ab_good := ab_mg sb_t4 113 rfl rfl
set_option maxRecDepth 20000 in
theorem q945 : Cond.instanceMethod ⟨"SealFaces$Hall", "bindsOf", "(IIIII)I"⟩ ∈ ab_good := ab_mg sb_t4 114 rfl rfl
set_option maxRecDepth 20000 in
theorem q946 : Cond.selects "SealFaces$Hall" ⟨"SealFaces$Hall", "bindsOf", "(IIIII)I"⟩ ⟨"SealFaces$Hall", "bindsOf", "(IIIII)I"⟩ ∈ ab_good := ab_mg sb_t4 115 rfl rfl
set_option maxRecDepth 20000 in
theorem q947 : Cond.code ⟨"SealFaces$Hall", "bindsOf", "(IIIII)I"⟩ prog_3_method_13_code 6 (some .int) ∈ ab_good := ab_mg sb_t4 116 rfl rfl
set_option maxRecDepth 20000 in
theorem q948 : Cond.methodLink "SealFaces$Hall" 100 ⟨"SealFaces$Hall", "ageIn", "(II)I"⟩ ∈ ab_good := ab_mg sb_t4 117 rfl rfl
set_option maxRecDepth 20000 in
theorem q949 : Cond.methodLink "SealFacesLaw" 41 ⟨"SealFaces", "treaty", "(II)I"⟩ ∈ ab_good := ab_mg sb_t4 118 rfl rfl
set_option maxRecDepth 20000 in
theorem q950 : Cond.instanceMethod ⟨"SealFaces", "treaty", "(II)I"⟩ ∈ ab_good := ab_mg sb_t4 119 rfl rfl
set_option maxRecDepth 20000 in
theorem q951 : Cond.selects "SealFaces" ⟨"SealFaces", "treaty", "(II)I"⟩ ⟨"SealFaces", "treaty", "(II)I"⟩ ∈ ab_good := ab_mg sb_t4 120 rfl rfl
set_option maxRecDepth 20000 in
theorem q952 : Cond.code ⟨"SealFaces", "treaty", "(II)I"⟩ prog_1_method_8_code 3 (some .int) ∈ ab_good := ab_mg sb_t4 121 rfl rfl
set_option maxRecDepth 20000 in
theorem q953 : Cond.methodLink "SealFaces" 166 ⟨"SealFaces$Text", "treatyDeed", "(II)I"⟩ ∈ ab_good := ab_mg sb_t4 122 rfl rfl
set_option maxRecDepth 20000 in
theorem q954 : Cond.instanceMethod ⟨"SealFaces$Text", "treatyDeed", "(II)I"⟩ ∈ ab_good := ab_mg sb_t4 123 rfl rfl
set_option maxRecDepth 20000 in
theorem q955 : Cond.selects "SealFaces$Text" ⟨"SealFaces$Text", "treatyDeed", "(II)I"⟩ ⟨"SealFaces$Text", "treatyDeed", "(II)I"⟩ ∈ ab_good := ab_mg sb_t4 124 rfl rfl
set_option maxRecDepth 20000 in
theorem q956 : Cond.code ⟨"SealFaces$Text", "treatyDeed", "(II)I"⟩ prog_10_method_6_code 3 (some .int) ∈ ab_good := ab_mg sb_t4 125 rfl rfl
set_option maxRecDepth 20000 in
theorem q957 : Cond.methodLink "SealFaces" 169 ⟨"SealFaces$Hall", "isHeld", "(I)Z"⟩ ∈ ab_good := ab_mg sb_t4 126 rfl rfl
set_option maxRecDepth 20000 in
theorem q958 : Cond.instanceMethod ⟨"SealFaces$Hall", "isHeld", "(I)Z"⟩ ∈ ab_good := ab_mg sb_t4 127 rfl rfl
set_option maxRecDepth 20000 in
theorem q959 : Cond.selects "SealFaces$Hall" ⟨"SealFaces$Hall", "isHeld", "(I)Z"⟩ ⟨"SealFaces$Hall", "isHeld", "(I)Z"⟩ ∈ ab_good := ab_mg sb_t4 128 rfl rfl
set_option maxRecDepth 20000 in
theorem q960 : Cond.code ⟨"SealFaces$Hall", "isHeld", "(I)Z"⟩ prog_3_method_27_code 4 (some .boolean) ∈ ab_good := ab_mg sb_t4 129 rfl rfl
set_option maxRecDepth 20000 in
theorem q961 : Cond.methodLink "SealFaces$Hall" 176 ⟨"SealFaces$Text", "treatyDeed", "(II)I"⟩ ∈ ab_good := ab_mg sb_t4 130 rfl rfl
set_option maxRecDepth 20000 in
theorem q962 : Cond.methodLink "SealFacesLaw" 45 ⟨"SealFaces", "takes", "(III)I"⟩ ∈ ab_good := ab_mg sb_t4 131 rfl rfl
set_option maxRecDepth 20000 in
theorem q963 : Cond.instanceMethod ⟨"SealFaces", "takes", "(III)I"⟩ ∈ ab_good := ab_mg sb_t4 132 rfl rfl
set_option maxRecDepth 20000 in
theorem q964 : Cond.selects "SealFaces" ⟨"SealFaces", "takes", "(III)I"⟩ ⟨"SealFaces", "takes", "(III)I"⟩ ∈ ab_good := ab_mg sb_t4 133 rfl rfl
set_option maxRecDepth 20000 in
theorem q965 : Cond.code ⟨"SealFaces", "takes", "(III)I"⟩ prog_1_method_9_code 4 (some .int) ∈ ab_good := ab_mg sb_t4 134 rfl rfl
set_option maxRecDepth 20000 in
theorem q966 : Cond.methodLink "SealFaces" 172 ⟨"SealFaces", "isFeature", "(I)Z"⟩ ∈ ab_good := ab_mg sb_t4 135 rfl rfl
set_option maxRecDepth 20000 in
theorem q967 : Cond.static ⟨"SealFaces", "isFeature", "(I)Z"⟩ ∈ ab_good := ab_mg sb_t4 136 rfl rfl
set_option maxRecDepth 20000 in
theorem q968 : Cond.code ⟨"SealFaces", "isFeature", "(I)Z"⟩ prog_1_method_45_code 1 (some .boolean) ∈ ab_good := ab_mg sb_t4 137 rfl rfl
set_option maxRecDepth 20000 in
theorem q969 : Cond.methodLink "SealFaces" 175 ⟨"SealFaces$Hall", "takesNow", "(III)I"⟩ ∈ ab_good := ab_mg sb_t4 138 rfl rfl
set_option maxRecDepth 20000 in
theorem q970 : Cond.instanceMethod ⟨"SealFaces$Hall", "takesNow", "(III)I"⟩ ∈ ab_good := ab_mg sb_t4 139 rfl rfl
set_option maxRecDepth 20000 in
theorem q971 : Cond.selects "SealFaces$Hall" ⟨"SealFaces$Hall", "takesNow", "(III)I"⟩ ⟨"SealFaces$Hall", "takesNow", "(III)I"⟩ ∈ ab_good := ab_mg sb_t4 140 rfl rfl
set_option maxRecDepth 20000 in
theorem q972 : Cond.code ⟨"SealFaces$Hall", "takesNow", "(III)I"⟩ prog_3_method_11_code 4 (some .int) ∈ ab_good := ab_mg sb_t4 141 rfl rfl
set_option maxRecDepth 20000 in
theorem q973 : Cond.methodLink "SealFaces$Hall" 77 ⟨"SealFaces$Scene", "levelOf", "(II)I"⟩ ∈ ab_good := ab_mg sb_t4 142 rfl rfl
set_option maxRecDepth 20000 in
theorem q974 : Cond.methodLink "SealFaces$Hall" 83 ⟨"SealFaces$Hall", "takesOf", "(IIIII)I"⟩ ∈ ab_good := ab_mg sb_t4 143 rfl rfl
set_option maxRecDepth 20000 in
theorem q975 : Cond.instanceMethod ⟨"SealFaces$Hall", "takesOf", "(IIIII)I"⟩ ∈ ab_good := ab_mg sb_t4 144 rfl rfl
set_option maxRecDepth 20000 in
theorem q976 : Cond.selects "SealFaces$Hall" ⟨"SealFaces$Hall", "takesOf", "(IIIII)I"⟩ ⟨"SealFaces$Hall", "takesOf", "(IIIII)I"⟩ ∈ ab_good := ab_mg sb_t4 145 rfl rfl
set_option maxRecDepth 20000 in
theorem q977 : Cond.code ⟨"SealFaces$Hall", "takesOf", "(IIIII)I"⟩ prog_3_method_12_code 6 (some .int) ∈ ab_good := ab_mg sb_t4 146 rfl rfl
set_option maxRecDepth 20000 in
theorem q978 : Cond.methodLink "SealFacesLaw" 50 ⟨"SealFaces", "seal", "(II)Z"⟩ ∈ ab_good := ab_mg sb_t4 147 rfl rfl
set_option maxRecDepth 20000 in
theorem q979 : Cond.instanceMethod ⟨"SealFaces", "seal", "(II)Z"⟩ ∈ ab_good := ab_mg sb_t4 148 rfl rfl
set_option maxRecDepth 20000 in
theorem q980 : Cond.selects "SealFaces" ⟨"SealFaces", "seal", "(II)Z"⟩ ⟨"SealFaces", "seal", "(II)Z"⟩ ∈ ab_good := ab_mg sb_t4 149 rfl rfl
set_option maxRecDepth 20000 in
theorem q981 : Cond.code ⟨"SealFaces", "seal", "(II)Z"⟩ prog_1_method_10_code 3 (some .boolean) ∈ ab_good := ab_mg sb_t4 150 rfl rfl
set_option maxRecDepth 20000 in
theorem q982 : Cond.methodLink "SealFaces" 179 ⟨"SealFaces$Hall", "canSeal", "(II)Z"⟩ ∈ ab_good := ab_mg sb_t4 151 rfl rfl
set_option maxRecDepth 20000 in
theorem q983 : Cond.instanceMethod ⟨"SealFaces$Hall", "canSeal", "(II)Z"⟩ ∈ ab_good := ab_mg sb_t4 152 rfl rfl
set_option maxRecDepth 20000 in
theorem q984 : Cond.selects "SealFaces$Hall" ⟨"SealFaces$Hall", "canSeal", "(II)Z"⟩ ⟨"SealFaces$Hall", "canSeal", "(II)Z"⟩ ∈ ab_good := ab_mg sb_t4 153 rfl rfl
set_option maxRecDepth 20000 in
theorem q985 : Cond.code ⟨"SealFaces$Hall", "canSeal", "(II)Z"⟩ prog_3_method_16_code 9 (some .boolean) ∈ ab_good := ab_mg sb_t4 154 rfl rfl
set_option maxRecDepth 20000 in
theorem q986 : Cond.methodLink "SealFaces$Hall" 136 ⟨"SealFaces$Hall", "isOpen", "(I)Z"⟩ ∈ ab_good := ab_mg sb_t4 155 rfl rfl
set_option maxRecDepth 20000 in
theorem q987 : Cond.instanceMethod ⟨"SealFaces$Hall", "isOpen", "(I)Z"⟩ ∈ ab_good := ab_mg sb_t4 156 rfl rfl
set_option maxRecDepth 20000 in
theorem q988 : Cond.selects "SealFaces$Hall" ⟨"SealFaces$Hall", "isOpen", "(I)Z"⟩ ⟨"SealFaces$Hall", "isOpen", "(I)Z"⟩ ∈ ab_good := ab_mg sb_t4 157 rfl rfl
set_option maxRecDepth 20000 in
theorem q989 : Cond.code ⟨"SealFaces$Hall", "isOpen", "(I)Z"⟩ prog_3_method_5_code 2 (some .boolean) ∈ ab_good := ab_mg sb_t4 158 rfl rfl
set_option maxRecDepth 20000 in
theorem q990 : Cond.methodLinkNest "SealFaces$Hall" 139 ⟨"SealFaces", "put", "([III)V"⟩ "SealFaces" ∈ ab_nest := ab_mn sb_t4 159 rfl rfl
set_option maxRecDepth 20000 in
theorem q991 : Cond.methodLink "SealFaces" 183 ⟨"SealFaces$Memory", "remember", "(LSealFaces$Scene;)V"⟩ ∈ ab_good := ab_mg sb_t4 160 rfl rfl
set_option maxRecDepth 20000 in
theorem q992 : Cond.instanceMethod ⟨"SealFaces$Memory", "remember", "(LSealFaces$Scene;)V"⟩ ∈ ab_good := ab_mg sb_t4 161 rfl rfl
set_option maxRecDepth 20000 in
theorem q993 : Cond.selects "SealFaces$Memory" ⟨"SealFaces$Memory", "remember", "(LSealFaces$Scene;)V"⟩ ⟨"SealFaces$Memory", "remember", "(LSealFaces$Scene;)V"⟩ ∈ ab_good := ab_mg sb_t4 162 rfl rfl
set_option maxRecDepth 20000 in
theorem q994 : Cond.code ⟨"SealFaces$Memory", "remember", "(LSealFaces$Scene;)V"⟩ prog_5_method_3_code 2 none ∈ ab_good := ab_mg sb_t4 163 rfl rfl
set_option maxRecDepth 20000 in
theorem q995 : Cond.methodLink "SealFaces$Memory" 28 ⟨"SealFaces$Scene", "copyTo", "([II)V"⟩ ∈ ab_good := ab_mg sb_t4 164 rfl rfl
set_option maxRecDepth 20000 in
theorem q996 : Cond.instanceMethod ⟨"SealFaces$Scene", "copyTo", "([II)V"⟩ ∈ ab_good := ab_mg sb_t4 165 rfl rfl
set_option maxRecDepth 20000 in
theorem q997 : Cond.selects "SealFaces$Scene" ⟨"SealFaces$Scene", "copyTo", "([II)V"⟩ ⟨"SealFaces$Scene", "copyTo", "([II)V"⟩ ∈ ab_good := ab_mg sb_t4 166 rfl rfl
set_option maxRecDepth 20000 in
theorem q998 : Cond.code ⟨"SealFaces$Scene", "copyTo", "([II)V"⟩ prog_8_method_10_code 3 none ∈ ab_good := ab_mg sb_t4 167 rfl rfl
set_option maxRecDepth 20000 in
theorem q999 : Cond.methodLink "SealFaces$Scene" 27 ⟨"java/lang/System", "arraycopy", "(Ljava/lang/Object;ILjava/lang/Object;II)V"⟩ ∈ ab_good := ab_mg sb_t4 168 rfl rfl
set_option maxRecDepth 20000 in
theorem q1000 : Cond.static ⟨"java/lang/System", "arraycopy", "(Ljava/lang/Object;ILjava/lang/Object;II)V"⟩ ∈ ab_good := ab_mg sb_t4 169 rfl rfl
set_option maxRecDepth 20000 in
theorem q1001 : Cond.native ⟨"java/lang/System", "arraycopy", "(Ljava/lang/Object;ILjava/lang/Object;II)V"⟩ ∈ ab_good := ab_mg sb_t4 170 rfl rfl
set_option maxRecDepth 20000 in
theorem q1002 : Cond.methodLink "SealFaces$Memory" 34 ⟨"java/lang/Math", "min", "(II)I"⟩ ∈ ab_good := ab_mg sb_t4 171 rfl rfl
set_option maxRecDepth 20000 in
theorem q1003 : Cond.methodLink "SealFaces" 187 ⟨"SealFaces$Hall", "putSeal", "(II)V"⟩ ∈ ab_good := ab_mg sb_t4 172 rfl rfl
set_option maxRecDepth 20000 in
theorem q1004 : Cond.instanceMethod ⟨"SealFaces$Hall", "putSeal", "(II)V"⟩ ∈ ab_good := ab_mg sb_t4 173 rfl rfl
set_option maxRecDepth 20000 in
theorem q1005 : Cond.selects "SealFaces$Hall" ⟨"SealFaces$Hall", "putSeal", "(II)V"⟩ ⟨"SealFaces$Hall", "putSeal", "(II)V"⟩ ∈ ab_good := ab_mg sb_t4 174 rfl rfl
set_option maxRecDepth 20000 in
theorem q1006 : Cond.code ⟨"SealFaces$Hall", "putSeal", "(II)V"⟩ prog_3_method_17_code 5 none ∈ ab_good := ab_mg sb_t4 175 rfl rfl
set_option maxRecDepth 20000 in
theorem q1007 : Cond.methodLink "SealFacesLaw" 55 ⟨"SealFaces", "forge", "(I)Z"⟩ ∈ ab_good := ab_mg sb_t4 176 rfl rfl
set_option maxRecDepth 20000 in
theorem q1008 : Cond.instanceMethod ⟨"SealFaces", "forge", "(I)Z"⟩ ∈ ab_good := ab_mg sb_t4 177 rfl rfl
set_option maxRecDepth 20000 in
theorem q1009 : Cond.selects "SealFaces" ⟨"SealFaces", "forge", "(I)Z"⟩ ⟨"SealFaces", "forge", "(I)Z"⟩ ∈ ab_good := ab_mg sb_t4 178 rfl rfl
set_option maxRecDepth 20000 in
theorem q1010 : Cond.code ⟨"SealFaces", "forge", "(I)Z"⟩ prog_1_method_11_code 2 (some .boolean) ∈ ab_good := ab_mg sb_t4 179 rfl rfl
set_option maxRecDepth 20000 in
theorem q1011 : Cond.methodLink "SealFaces" 191 ⟨"SealFaces$Hall", "isOpen", "(I)Z"⟩ ∈ ab_good := ab_mg sb_t4 180 rfl rfl
set_option maxRecDepth 20000 in
theorem q1012 : Cond.methodLink "SealFaces" 194 ⟨"SealFaces$Hall", "putForgery", "(I)V"⟩ ∈ ab_good := ab_mg sb_t4 181 rfl rfl
set_option maxRecDepth 20000 in
theorem q1013 : Cond.instanceMethod ⟨"SealFaces$Hall", "putForgery", "(I)V"⟩ ∈ ab_good := ab_mg sb_t4 182 rfl rfl
set_option maxRecDepth 20000 in
theorem q1014 : Cond.selects "SealFaces$Hall" ⟨"SealFaces$Hall", "putForgery", "(I)V"⟩ ⟨"SealFaces$Hall", "putForgery", "(I)V"⟩ ∈ ab_good := ab_mg sb_t4 183 rfl rfl
set_option maxRecDepth 20000 in
theorem q1015 : Cond.code ⟨"SealFaces$Hall", "putForgery", "(I)V"⟩ prog_3_method_18_code 3 none ∈ ab_good := ab_mg sb_t4 184 rfl rfl
set_option maxRecDepth 20000 in
theorem q1016 : Cond.methodLink "SealFacesLaw" 60 ⟨"SealFaces", "burn", "(I)Z"⟩ ∈ ab_good := ab_mg sb_t4 185 rfl rfl
set_option maxRecDepth 20000 in
theorem q1017 : Cond.instanceMethod ⟨"SealFaces", "burn", "(I)Z"⟩ ∈ ab_good := ab_mg sb_t4 186 rfl rfl
set_option maxRecDepth 20000 in
theorem q1018 : Cond.selects "SealFaces" ⟨"SealFaces", "burn", "(I)Z"⟩ ⟨"SealFaces", "burn", "(I)Z"⟩ ∈ ab_good := ab_mg sb_t4 187 rfl rfl
set_option maxRecDepth 20000 in
theorem q1019 : Cond.code ⟨"SealFaces", "burn", "(I)Z"⟩ prog_1_method_12_code 2 (some .boolean) ∈ ab_good := ab_mg sb_t4 188 rfl rfl
set_option maxRecDepth 20000 in
theorem q1020 : Cond.methodLink "SealFaces" 197 ⟨"SealFaces$Hall", "putOpen", "(I)V"⟩ ∈ ab_good := ab_mg sb_t4 189 rfl rfl
set_option maxRecDepth 20000 in
theorem q1021 : Cond.methodLink "SealFacesLaw" 64 ⟨"SealFaces", "years", "(I)I"⟩ ∈ ab_good := ab_mg sb_t4 190 rfl rfl
set_option maxRecDepth 20000 in
theorem q1022 : Cond.instanceMethod ⟨"SealFaces", "years", "(I)I"⟩ ∈ ab_good := ab_mg sb_t4 191 rfl rfl
set_option maxRecDepth 20000 in
theorem q1023 : Cond.selects "SealFaces" ⟨"SealFaces", "years", "(I)I"⟩ ⟨"SealFaces", "years", "(I)I"⟩ ∈ ab_good := ab_mg sb_t4 192 rfl rfl
set_option maxRecDepth 20000 in
theorem q1024 : Cond.code ⟨"SealFaces", "years", "(I)I"⟩ prog_1_method_13_code 3 (some .int) ∈ ab_good := ab_mg sb_t4 193 rfl rfl
set_option maxRecDepth 20000 in
theorem q1025 : Cond.methodLink "SealFaces" 200 ⟨"SealFaces$Hall", "passYear", "()V"⟩ ∈ ab_good := ab_mg sb_t4 194 rfl rfl
set_option maxRecDepth 20000 in
theorem q1026 : Cond.instanceMethod ⟨"SealFaces$Hall", "passYear", "()V"⟩ ∈ ab_good := ab_mg sb_t4 195 rfl rfl
set_option maxRecDepth 20000 in
theorem q1027 : Cond.selects "SealFaces$Hall" ⟨"SealFaces$Hall", "passYear", "()V"⟩ ⟨"SealFaces$Hall", "passYear", "()V"⟩ ∈ ab_good := ab_mg sb_t4 196 rfl rfl
set_option maxRecDepth 20000 in
theorem q1028 : Cond.code ⟨"SealFaces$Hall", "passYear", "()V"⟩ prog_3_method_20_code 3 none ∈ ab_good := ab_mg sb_t4 197 rfl rfl
set_option maxRecDepth 20000 in
theorem q1029 : Cond.methodLink "SealFaces$Hall" 150 ⟨"SealFaces$Hall", "levelAfter", "(III)I"⟩ ∈ ab_good := ab_mg sb_t4 198 rfl rfl
set_option maxRecDepth 20000 in
theorem q1030 : Cond.instanceMethod ⟨"SealFaces$Hall", "levelAfter", "(III)I"⟩ ∈ ab_good := ab_mg sb_t4 199 rfl rfl
set_option maxRecDepth 20000 in
theorem q1031 : Cond.selects "SealFaces$Hall" ⟨"SealFaces$Hall", "levelAfter", "(III)I"⟩ ⟨"SealFaces$Hall", "levelAfter", "(III)I"⟩ ∈ ab_good := ab_mg sb_t4 200 rfl rfl
set_option maxRecDepth 20000 in
theorem q1032 : Cond.code ⟨"SealFaces$Hall", "levelAfter", "(III)I"⟩ prog_3_method_21_code 7 (some .int) ∈ ab_good := ab_mg sb_t4 201 rfl rfl
set_option maxRecDepth 20000 in
theorem q1033 : Cond.methodLink "SealFaces$Hall" 157 ⟨"SealFaces$Hall", "grown", "(IIIII)I"⟩ ∈ ab_good := ab_mg sb_t4 202 rfl rfl
set_option maxRecDepth 20000 in
theorem q1035 : Cond.instanceMethod ⟨"SealFaces$Hall", "grown", "(IIIII)I"⟩ ∈ ab_good := ab_mg sb_t4 204 rfl rfl
set_option maxRecDepth 20000 in
theorem q1036 : Cond.code ⟨"SealFaces$Hall", "grown", "(IIIII)I"⟩ prog_3_method_14_code 7 (some .int) ∈ ab_good := ab_mg sb_t4 205 rfl rfl
set_option maxRecDepth 20000 in
theorem q1037 : Cond.methodLink "SealFaces$Hall" 125 ⟨"java/lang/Math", "min", "(II)I"⟩ ∈ ab_good := ab_mg sb_t4 206 rfl rfl
set_option maxRecDepth 20000 in
theorem q1038 : Cond.methodLink "SealFacesLaw" 68 ⟨"SealFaces", "undo", "()Z"⟩ ∈ ab_good := ab_mg sb_t4 207 rfl rfl
set_option maxRecDepth 20000 in
theorem q1039 : Cond.instanceMethod ⟨"SealFaces", "undo", "()Z"⟩ ∈ ab_good := ab_mg sb_t4 208 rfl rfl
set_option maxRecDepth 20000 in
theorem q1040 : Cond.selects "SealFaces" ⟨"SealFaces", "undo", "()Z"⟩ ⟨"SealFaces", "undo", "()Z"⟩ ∈ ab_good := ab_mg sb_t4 209 rfl rfl
set_option maxRecDepth 20000 in
theorem q1041 : Cond.code ⟨"SealFaces", "undo", "()Z"⟩ prog_1_method_14_code 1 (some .boolean) ∈ ab_good := ab_mg sb_t4 210 rfl rfl
set_option maxRecDepth 20000 in
theorem q1042 : Cond.methodLink "SealFaces" 203 ⟨"SealFaces$Memory", "recall", "(LSealFaces$Scene;)Z"⟩ ∈ ab_good := ab_mg sb_t4 211 rfl rfl
set_option maxRecDepth 20000 in
theorem q1043 : Cond.instanceMethod ⟨"SealFaces$Memory", "recall", "(LSealFaces$Scene;)Z"⟩ ∈ ab_good := ab_mg sb_t4 212 rfl rfl
set_option maxRecDepth 20000 in
theorem q1044 : Cond.selects "SealFaces$Memory" ⟨"SealFaces$Memory", "recall", "(LSealFaces$Scene;)Z"⟩ ⟨"SealFaces$Memory", "recall", "(LSealFaces$Scene;)Z"⟩ ∈ ab_good := ab_mg sb_t4 213 rfl rfl
set_option maxRecDepth 20000 in
theorem q1045 : Cond.code ⟨"SealFaces$Memory", "recall", "(LSealFaces$Scene;)Z"⟩ prog_5_method_4_code 2 (some .boolean) ∈ ab_good := ab_mg sb_t4 214 rfl rfl
set_option maxRecDepth 20000 in
theorem q1046 : Cond.methodLink "SealFaces$Memory" 40 ⟨"SealFaces$Scene", "copyFrom", "([II)V"⟩ ∈ ab_good := ab_mg sb_t4 215 rfl rfl
set_option maxRecDepth 20000 in
theorem q1047 : Cond.instanceMethod ⟨"SealFaces$Scene", "copyFrom", "([II)V"⟩ ∈ ab_good := ab_mg sb_t4 216 rfl rfl
set_option maxRecDepth 20000 in
theorem q1048 : Cond.selects "SealFaces$Scene" ⟨"SealFaces$Scene", "copyFrom", "([II)V"⟩ ⟨"SealFaces$Scene", "copyFrom", "([II)V"⟩ ∈ ab_good := ab_mg sb_t4 217 rfl rfl
set_option maxRecDepth 20000 in
theorem q1049 : Cond.code ⟨"SealFaces$Scene", "copyFrom", "([II)V"⟩ prog_8_method_11_code 3 none ∈ ab_good := ab_mg sb_t4 218 rfl rfl
set_option maxRecDepth 20000 in
theorem q1050 : Cond.methodLink "SealFacesLaw" 73 ⟨"SealFaces", "all", "(I)I"⟩ ∈ ab_good := ab_mg sb_t4 219 rfl rfl
set_option maxRecDepth 20000 in
theorem q1051 : Cond.instanceMethod ⟨"SealFaces", "all", "(I)I"⟩ ∈ ab_good := ab_mg sb_t4 220 rfl rfl
set_option maxRecDepth 20000 in
theorem q1052 : Cond.selects "SealFaces" ⟨"SealFaces", "all", "(I)I"⟩ ⟨"SealFaces", "all", "(I)I"⟩ ∈ ab_good := ab_mg sb_t4 221 rfl rfl
set_option maxRecDepth 20000 in
theorem q1053 : Cond.code ⟨"SealFaces", "all", "(I)I"⟩ prog_1_method_15_code 2 (some .int) ∈ ab_good := ab_mg sb_t4 222 rfl rfl
set_option maxRecDepth 20000 in
theorem q1054 : Cond.methodLink "SealFaces" 207 ⟨"SealFaces$Plan", "prepare", "()V"⟩ ∈ ab_good := ab_mg sb_t4 223 rfl rfl
set_option maxRecDepth 20000 in
theorem q1055 : Cond.instanceMethod ⟨"SealFaces$Plan", "prepare", "()V"⟩ ∈ ab_good := ab_mg sb_t4 224 rfl rfl
set_option maxRecDepth 20000 in
theorem q1056 : Cond.selects "SealFaces$Plan" ⟨"SealFaces$Plan", "prepare", "()V"⟩ ⟨"SealFaces$Plan", "prepare", "()V"⟩ ∈ ab_good := ab_mg sb_t4 225 rfl rfl
set_option maxRecDepth 20000 in
theorem q1057 : Cond.code ⟨"SealFaces$Plan", "prepare", "()V"⟩ prog_6_method_2_code 3 none ∈ ab_good := ab_mg sb_t4 226 rfl rfl
set_option maxRecDepth 20000 in
theorem q1058 : Cond.methodLink "SealFaces$Plan" 50 ⟨"SealFaces$Hall", "deedsWith", "(I)I"⟩ ∈ ab_good := ab_mg sb_t4 227 rfl rfl
set_option maxRecDepth 20000 in
theorem q1059 : Cond.methodLink "SealFaces$Plan" 63 ⟨"SealFaces$Plan", "prepareClerk", "(II)V"⟩ ∈ ab_good := ab_mg sb_t4 228 rfl rfl
set_option maxRecDepth 20000 in
theorem q1061 : Cond.instanceMethod ⟨"SealFaces$Plan", "prepareClerk", "(II)V"⟩ ∈ ab_good := ab_mg sb_t4 230 rfl rfl
set_option maxRecDepth 20000 in
theorem q1062 : Cond.code ⟨"SealFaces$Plan", "prepareClerk", "(II)V"⟩ prog_6_method_10_code 9 none ∈ ab_good := ab_mg sb_t4 231 rfl rfl
set_option maxRecDepth 20000 in
theorem q1063 : Cond.methodLink "SealFaces$Plan" 126 ⟨"SealFaces$Hall", "sealedBy", "(I)I"⟩ ∈ ab_good := ab_mg sb_t4 232 rfl rfl
set_option maxRecDepth 20000 in
theorem q1064 : Cond.methodLink "SealFaces$Plan" 129 ⟨"SealFaces$Scene", "levelOf", "(II)I"⟩ ∈ ab_good := ab_mg sb_t4 233 rfl rfl
set_option maxRecDepth 20000 in
theorem q1065 : Cond.methodLinkNest "SealFaces$Plan" 116 ⟨"SealFaces", "put", "([III)V"⟩ "SealFaces" ∈ ab_nest := ab_mn sb_t4 234 rfl rfl
set_option maxRecDepth 20000 in
theorem q1066 : Cond.methodLinkNest "SealFaces$Plan" 135 ⟨"SealFaces", "hasBit", "(II)Z"⟩ "SealFaces" ∈ ab_nest := ab_mn sb_t4 235 rfl rfl
set_option maxRecDepth 20000 in
theorem q1067 : Cond.static ⟨"SealFaces", "hasBit", "(II)Z"⟩ ∈ ab_good := ab_mg sb_t4 236 rfl rfl
set_option maxRecDepth 20000 in
theorem q1068 : Cond.code ⟨"SealFaces", "hasBit", "(II)Z"⟩ prog_1_method_49_code 2 (some .boolean) ∈ ab_good := ab_mg sb_t4 237 rfl rfl
set_option maxRecDepth 20000 in
theorem q1069 : Cond.methodLink "SealFaces$Plan" 99 ⟨"SealFaces$Plan", "hasSet", "(JI)Z"⟩ ∈ ab_good := ab_mg sb_t4 238 rfl rfl
set_option maxRecDepth 20000 in
theorem q1070 : Cond.static ⟨"SealFaces$Plan", "hasSet", "(JI)Z"⟩ ∈ ab_good := ab_mg sb_t4 239 rfl rfl
set_option maxRecDepth 20000 in
theorem q1071 : Cond.code ⟨"SealFaces$Plan", "hasSet", "(JI)Z"⟩ prog_6_method_13_code 3 (some .boolean) ∈ ab_good := ab_mg sb_t5 0 rfl rfl
set_option maxRecDepth 20000 in
theorem q1072 : Cond.methodLink "SealFaces$Plan" 94 ⟨"java/lang/Integer", "bitCount", "(I)I"⟩ ∈ ab_good := ab_mg sb_t5 1 rfl rfl
set_option maxRecDepth 20000 in
theorem q1073 : Cond.methodLink "SealFaces$Plan" 139 ⟨"SealFaces$Plan", "canSealLast", "(IIII)Z"⟩ ∈ ab_good := ab_mg sb_t5 2 rfl rfl
set_option maxRecDepth 20000 in
theorem q1075 : Cond.instanceMethod ⟨"SealFaces$Plan", "canSealLast", "(IIII)Z"⟩ ∈ ab_good := ab_mg sb_t5 4 rfl rfl
set_option maxRecDepth 20000 in
theorem q1076 : Cond.code ⟨"SealFaces$Plan", "canSealLast", "(IIII)Z"⟩ prog_6_method_11_code 12 (some .boolean) ∈ ab_good := ab_mg sb_t5 5 rfl rfl
set_option maxRecDepth 20000 in
theorem q1077 : Cond.methodLinkNest "SealFaces$Plan" 78 ⟨"SealFaces", "at", "([II)I"⟩ "SealFaces" ∈ ab_nest := ab_mn sb_t5 6 rfl rfl
set_option maxRecDepth 20000 in
theorem q1078 : Cond.methodLink "SealFaces$Plan" 147 ⟨"SealFaces$Hall", "takesOf", "(IIIII)I"⟩ ∈ ab_good := ab_mg sb_t5 7 rfl rfl
set_option maxRecDepth 20000 in
theorem q1079 : Cond.methodLink "SealFaces$Plan" 143 ⟨"SealFaces$Plan", "scoreOf", "(III)I"⟩ ∈ ab_good := ab_mg sb_t5 8 rfl rfl
set_option maxRecDepth 20000 in
theorem q1081 : Cond.instanceMethod ⟨"SealFaces$Plan", "scoreOf", "(III)I"⟩ ∈ ab_good := ab_mg sb_t5 10 rfl rfl
set_option maxRecDepth 20000 in
theorem q1082 : Cond.code ⟨"SealFaces$Plan", "scoreOf", "(III)I"⟩ prog_6_method_12_code 8 (some .int) ∈ ab_good := ab_mg sb_t5 11 rfl rfl
set_option maxRecDepth 20000 in
theorem q1083 : Cond.methodLink "SealFaces$Plan" 151 ⟨"SealFaces$Scene", "yearNow", "()I"⟩ ∈ ab_good := ab_mg sb_t5 12 rfl rfl
set_option maxRecDepth 20000 in
theorem q1084 : Cond.methodLink "SealFaces$Plan" 154 ⟨"SealFaces$Hall", "bindsOf", "(IIIII)I"⟩ ∈ ab_good := ab_mg sb_t5 13 rfl rfl
set_option maxRecDepth 20000 in
theorem q1085 : Cond.constant "SealFaces$Plan" 74 (46656) ∈ ab_good := ab_mg sb_t5 14 rfl rfl
set_option maxRecDepth 20000 in
theorem q1086 : Cond.fieldLink "SealFaces$Plan" 75 "SealFaces$Plan" "WEIGHTS" "[I" ∈ ab_good := ab_mg sb_t5 15 rfl rfl
set_option maxRecDepth 20000 in
theorem q1088 : Cond.methodLinkNest "SealFaces$Plan" 82 ⟨"SealFaces", "putLong", "([JIJ)V"⟩ "SealFaces" ∈ ab_nest := ab_mn sb_t5 17 rfl rfl
set_option maxRecDepth 20000 in
theorem q1089 : Cond.methodLink "SealFaces" 210 ⟨"SealFaces$Plan", "mostBound", "()I"⟩ ∈ ab_good := ab_mg sb_t5 18 rfl rfl
set_option maxRecDepth 20000 in
theorem q1090 : Cond.instanceMethod ⟨"SealFaces$Plan", "mostBound", "()I"⟩ ∈ ab_good := ab_mg sb_t5 19 rfl rfl
set_option maxRecDepth 20000 in
theorem q1091 : Cond.selects "SealFaces$Plan" ⟨"SealFaces$Plan", "mostBound", "()I"⟩ ⟨"SealFaces$Plan", "mostBound", "()I"⟩ ∈ ab_good := ab_mg sb_t5 20 rfl rfl
set_option maxRecDepth 20000 in
theorem q1092 : Cond.code ⟨"SealFaces$Plan", "mostBound", "()I"⟩ prog_6_method_3_code 1 (some .int) ∈ ab_good := ab_mg sb_t5 21 rfl rfl
set_option maxRecDepth 20000 in
theorem q1093 : Cond.methodLink "SealFaces$Plan" 67 ⟨"SealFaces$Plan", "bestScore", "()I"⟩ ∈ ab_good := ab_mg sb_t5 22 rfl rfl
set_option maxRecDepth 20000 in
theorem q1095 : Cond.instanceMethod ⟨"SealFaces$Plan", "bestScore", "()I"⟩ ∈ ab_good := ab_mg sb_t5 24 rfl rfl
set_option maxRecDepth 20000 in
theorem q1096 : Cond.code ⟨"SealFaces$Plan", "bestScore", "()I"⟩ prog_6_method_8_code 4 (some .int) ∈ ab_good := ab_mg sb_t5 25 rfl rfl
set_option maxRecDepth 20000 in
theorem q1097 : Cond.constant "SealFaces$Plan" 109 (-1000000000) ∈ ab_good := ab_mg sb_t5 26 rfl rfl
set_option maxRecDepth 20000 in
theorem q1098 : Cond.methodLink "SealFaces$Plan" 110 ⟨"java/util/Arrays", "fill", "([II)V"⟩ ∈ ab_good := ab_mg sb_t5 27 rfl rfl
set_option maxRecDepth 20000 in
theorem q1099 : Cond.methodLink "SealFaces$Plan" 120 ⟨"SealFaces$Plan", "joinClerk", "(II)V"⟩ ∈ ab_good := ab_mg sb_t5 28 rfl rfl
set_option maxRecDepth 20000 in
theorem q1101 : Cond.instanceMethod ⟨"SealFaces$Plan", "joinClerk", "(II)V"⟩ ∈ ab_good := ab_mg sb_t5 30 rfl rfl
set_option maxRecDepth 20000 in
theorem q1102 : Cond.code ⟨"SealFaces$Plan", "joinClerk", "(II)V"⟩ prog_6_method_9_code 10 none ∈ ab_good := ab_mg sb_t5 31 rfl rfl
set_option maxRecDepth 20000 in
theorem q1103 : Cond.methodLinkNest "SealFaces$Plan" 86 ⟨"SealFaces", "longAt", "([JI)J"⟩ "SealFaces" ∈ ab_nest := ab_mn sb_t5 32 rfl rfl
set_option maxRecDepth 20000 in
theorem q1104 : Cond.static ⟨"SealFaces", "longAt", "([JI)J"⟩ ∈ ab_good := ab_mg sb_t5 33 rfl rfl
set_option maxRecDepth 20000 in
theorem q1105 : Cond.code ⟨"SealFaces", "longAt", "([JI)J"⟩ prog_1_method_54_code 2 (some .long) ∈ ab_good := ab_mg sb_t5 34 rfl rfl
set_option maxRecDepth 20000 in
theorem q1106 : Cond.methodLink "SealFaces$Plan" 123 ⟨"java/lang/Math", "max", "(II)I"⟩ ∈ ab_good := ab_mg sb_t5 35 rfl rfl
set_option maxRecDepth 20000 in
theorem q1107 : Cond.methodLink "SealFaces$Plan" 71 ⟨"SealFaces$Plan", "boundBy", "(I)I"⟩ ∈ ab_good := ab_mg sb_t5 36 rfl rfl
set_option maxRecDepth 20000 in
theorem q1108 : Cond.static ⟨"SealFaces$Plan", "boundBy", "(I)I"⟩ ∈ ab_good := ab_mg sb_t5 37 rfl rfl
set_option maxRecDepth 20000 in
theorem q1109 : Cond.code ⟨"SealFaces$Plan", "boundBy", "(I)I"⟩ prog_6_method_7_code 1 (some .int) ∈ ab_good := ab_mg sb_t5 38 rfl rfl
set_option maxRecDepth 20000 in
theorem q1110 : Cond.methodLink "SealFaces$Plan" 103 ⟨"java/lang/Math", "floorDiv", "(II)I"⟩ ∈ ab_good := ab_mg sb_t5 39 rfl rfl
set_option maxRecDepth 20000 in
theorem q1111 : Cond.static ⟨"java/lang/Math", "floorDiv", "(II)I"⟩ ∈ ab_good := ab_mg sb_t5 40 rfl rfl
set_option maxRecDepth 20000 in
theorem q1112 : Cond.code ⟨"java/lang/Math", "floorDiv", "(II)I"⟩ prog_17_method_47_code 3 (some .int) ∈ ab_good := ab_mg sb_t5 41 rfl rfl
set_option maxRecDepth 20000 in
theorem q1113 : Cond.methodLink "SealFaces" 213 ⟨"SealFaces$Plan", "sealerFor", "(I)I"⟩ ∈ ab_good := ab_mg sb_t5 42 rfl rfl
set_option maxRecDepth 20000 in
theorem q1114 : Cond.instanceMethod ⟨"SealFaces$Plan", "sealerFor", "(I)I"⟩ ∈ ab_good := ab_mg sb_t5 43 rfl rfl
set_option maxRecDepth 20000 in
theorem q1115 : Cond.selects "SealFaces$Plan" ⟨"SealFaces$Plan", "sealerFor", "(I)I"⟩ ⟨"SealFaces$Plan", "sealerFor", "(I)I"⟩ ∈ ab_good := ab_mg sb_t5 44 rfl rfl
set_option maxRecDepth 20000 in
theorem q1116 : Cond.code ⟨"SealFaces$Plan", "sealerFor", "(I)I"⟩ prog_6_method_4_code 6 (some .int) ∈ ab_good := ab_mg sb_t5 45 rfl rfl
set_option maxRecDepth 20000 in
theorem q1117 : Cond.methodLink "SealFacesLaw" 77 ⟨"SealFaces", "fewest", "(I)I"⟩ ∈ ab_good := ab_mg sb_t5 46 rfl rfl
set_option maxRecDepth 20000 in
theorem q1118 : Cond.instanceMethod ⟨"SealFaces", "fewest", "(I)I"⟩ ∈ ab_good := ab_mg sb_t5 47 rfl rfl
set_option maxRecDepth 20000 in
theorem q1119 : Cond.selects "SealFaces" ⟨"SealFaces", "fewest", "(I)I"⟩ ⟨"SealFaces", "fewest", "(I)I"⟩ ∈ ab_good := ab_mg sb_t5 48 rfl rfl
set_option maxRecDepth 20000 in
theorem q1120 : Cond.code ⟨"SealFaces", "fewest", "(I)I"⟩ prog_1_method_16_code 3 (some .int) ∈ ab_good := ab_mg sb_t5 49 rfl rfl
set_option maxRecDepth 20000 in
theorem q1121 : Cond.methodLink "SealFaces" 216 ⟨"SealFaces", "isHowManyOrWho", "(I)Z"⟩ ∈ ab_good := ab_mg sb_t5 50 rfl rfl
set_option maxRecDepth 20000 in
theorem q1122 : Cond.static ⟨"SealFaces", "isHowManyOrWho", "(I)Z"⟩ ∈ ab_good := ab_mg sb_t5 51 rfl rfl
set_option maxRecDepth 20000 in
theorem q1123 : Cond.code ⟨"SealFaces", "isHowManyOrWho", "(I)Z"⟩ prog_1_method_47_code 1 (some .boolean) ∈ ab_good := ab_mg sb_t5 52 rfl rfl
set_option maxRecDepth 20000 in
theorem q1124 : Cond.methodLink "SealFaces" 219 ⟨"SealFaces$Plan", "fewestClerks", "()I"⟩ ∈ ab_good := ab_mg sb_t5 53 rfl rfl
set_option maxRecDepth 20000 in
theorem q1125 : Cond.instanceMethod ⟨"SealFaces$Plan", "fewestClerks", "()I"⟩ ∈ ab_good := ab_mg sb_t5 54 rfl rfl
set_option maxRecDepth 20000 in
theorem q1126 : Cond.selects "SealFaces$Plan" ⟨"SealFaces$Plan", "fewestClerks", "()I"⟩ ⟨"SealFaces$Plan", "fewestClerks", "()I"⟩ ∈ ab_good := ab_mg sb_t5 55 rfl rfl
set_option maxRecDepth 20000 in
theorem q1127 : Cond.code ⟨"SealFaces$Plan", "fewestClerks", "()I"⟩ prog_6_method_5_code 6 (some .int) ∈ ab_good := ab_mg sb_t5 56 rfl rfl
set_option maxRecDepth 20000 in
theorem q1128 : Cond.methodLink "SealFaces$Plan" 90 ⟨"SealFaces$Plan", "reachedWith", "(JJI)J"⟩ ∈ ab_good := ab_mg sb_t5 57 rfl rfl
set_option maxRecDepth 20000 in
theorem q1129 : Cond.static ⟨"SealFaces$Plan", "reachedWith", "(JJI)J"⟩ ∈ ab_good := ab_mg sb_t5 58 rfl rfl
set_option maxRecDepth 20000 in
theorem q1130 : Cond.code ⟨"SealFaces$Plan", "reachedWith", "(JJI)J"⟩ prog_6_method_6_code 11 (some .long) ∈ ab_good := ab_mg sb_t5 59 rfl rfl
set_option maxRecDepth 20000 in
theorem q1131 : Cond.methodLink "SealFaces" 222 ⟨"SealFaces", "countOrBits", "(II)I"⟩ ∈ ab_good := ab_mg sb_t5 60 rfl rfl
set_option maxRecDepth 20000 in
theorem q1132 : Cond.static ⟨"SealFaces", "countOrBits", "(II)I"⟩ ∈ ab_good := ab_mg sb_t5 61 rfl rfl
set_option maxRecDepth 20000 in
theorem q1133 : Cond.code ⟨"SealFaces", "countOrBits", "(II)I"⟩ prog_1_method_48_code 2 (some .int) ∈ ab_good := ab_mg sb_t5 62 rfl rfl
set_option maxRecDepth 20000 in
theorem q1134 : Cond.methodLink "SealFaces" 313 ⟨"java/lang/Integer", "bitCount", "(I)I"⟩ ∈ ab_good := ab_mg sb_t5 63 rfl rfl
set_option maxRecDepth 20000 in
theorem q1135 : Cond.methodLink "SealFacesLaw" 81 ⟨"SealFaces", "match", "(I)I"⟩ ∈ ab_good := ab_mg sb_t5 64 rfl rfl
set_option maxRecDepth 20000 in
theorem q1136 : Cond.instanceMethod ⟨"SealFaces", "match", "(I)I"⟩ ∈ ab_good := ab_mg sb_t5 65 rfl rfl
set_option maxRecDepth 20000 in
theorem q1137 : Cond.selects "SealFaces" ⟨"SealFaces", "match", "(I)I"⟩ ⟨"SealFaces", "match", "(I)I"⟩ ∈ ab_good := ab_mg sb_t5 66 rfl rfl
set_option maxRecDepth 20000 in
theorem q1138 : Cond.code ⟨"SealFaces", "match", "(I)I"⟩ prog_1_method_17_code 2 (some .int) ∈ ab_good := ab_mg sb_t5 67 rfl rfl
set_option maxRecDepth 20000 in
theorem q1139 : Cond.methodLink "SealFaces" 225 ⟨"SealFaces$Choices", "fillMatches", "()V"⟩ ∈ ab_good := ab_mg sb_t5 68 rfl rfl
set_option maxRecDepth 20000 in
theorem q1140 : Cond.instanceMethod ⟨"SealFaces$Choices", "fillMatches", "()V"⟩ ∈ ab_good := ab_mg sb_t5 69 rfl rfl
set_option maxRecDepth 20000 in
theorem q1141 : Cond.selects "SealFaces$Choices" ⟨"SealFaces$Choices", "fillMatches", "()V"⟩ ⟨"SealFaces$Choices", "fillMatches", "()V"⟩ ∈ ab_good := ab_mg sb_t5 70 rfl rfl
set_option maxRecDepth 20000 in
theorem q1142 : Cond.code ⟨"SealFaces$Choices", "fillMatches", "()V"⟩ prog_2_method_2_code 4 none ∈ ab_good := ab_mg sb_t5 71 rfl rfl
set_option maxRecDepth 20000 in
theorem q1143 : Cond.methodLinkNest "SealFaces$Choices" 40 ⟨"SealFaces", "put", "([III)V"⟩ "SealFaces" ∈ ab_nest := ab_mn sb_t5 72 rfl rfl
set_option maxRecDepth 20000 in
theorem q1144 : Cond.methodLink "SealFaces$Choices" 44 ⟨"SealFaces$Hall", "clerksFor", "(I)I"⟩ ∈ ab_good := ab_mg sb_t5 73 rfl rfl
set_option maxRecDepth 20000 in
theorem q1145 : Cond.instanceMethod ⟨"SealFaces$Hall", "clerksFor", "(I)I"⟩ ∈ ab_good := ab_mg sb_t5 74 rfl rfl
set_option maxRecDepth 20000 in
theorem q1146 : Cond.selects "SealFaces$Hall" ⟨"SealFaces$Hall", "clerksFor", "(I)I"⟩ ⟨"SealFaces$Hall", "clerksFor", "(I)I"⟩ ∈ ab_good := ab_mg sb_t5 75 rfl rfl
set_option maxRecDepth 20000 in
theorem q1147 : Cond.code ⟨"SealFaces$Hall", "clerksFor", "(I)I"⟩ prog_3_method_30_code 4 (some .int) ∈ ab_good := ab_mg sb_t5 76 rfl rfl
set_option maxRecDepth 20000 in
theorem q1148 : Cond.methodLink "SealFaces$Hall" 185 ⟨"SealFaces$Hall", "canSeal", "(II)Z"⟩ ∈ ab_good := ab_mg sb_t5 77 rfl rfl
set_option maxRecDepth 20000 in
theorem q1149 : Cond.methodLink "SealFaces$Choices" 47 ⟨"SealFaces$Choices", "mostWith", "(II)I"⟩ ∈ ab_good := ab_mg sb_t5 78 rfl rfl
set_option maxRecDepth 20000 in
theorem q1151 : Cond.instanceMethod ⟨"SealFaces$Choices", "mostWith", "(II)I"⟩ ∈ ab_good := ab_mg sb_t5 80 rfl rfl
set_option maxRecDepth 20000 in
theorem q1152 : Cond.code ⟨"SealFaces$Choices", "mostWith", "(II)I"⟩ prog_2_method_6_code 6 (some .int) ∈ ab_good := ab_mg sb_t5 81 rfl rfl
set_option maxRecDepth 20000 in
theorem q1153 : Cond.methodLink "SealFaces$Choices" 51 ⟨"SealFaces$Choices", "mostFrom", "(II)I"⟩ ∈ ab_good := ab_mg sb_t5 82 rfl rfl
set_option maxRecDepth 20000 in
theorem q1155 : Cond.instanceMethod ⟨"SealFaces$Choices", "mostFrom", "(II)I"⟩ ∈ ab_good := ab_mg sb_t5 84 rfl rfl
set_option maxRecDepth 20000 in
theorem q1156 : Cond.code ⟨"SealFaces$Choices", "mostFrom", "(II)I"⟩ prog_2_method_5_code 3 (some .int) ∈ ab_good := ab_mg sb_t5 85 rfl rfl
set_option maxRecDepth 20000 in
theorem q1157 : Cond.methodLinkNest "SealFaces$Choices" 57 ⟨"SealFaces", "at", "([II)I"⟩ "SealFaces" ∈ ab_nest := ab_mn sb_t5 86 rfl rfl
set_option maxRecDepth 20000 in
theorem q1158 : Cond.methodLinkNest "SealFaces$Choices" 61 ⟨"SealFaces", "hasBit", "(II)Z"⟩ "SealFaces" ∈ ab_nest := ab_mn sb_t5 87 rfl rfl
set_option maxRecDepth 20000 in
theorem q1159 : Cond.methodLink "SealFaces$Choices" 65 ⟨"java/lang/Math", "max", "(II)I"⟩ ∈ ab_good := ab_mg sb_t5 88 rfl rfl
set_option maxRecDepth 20000 in
theorem q1160 : Cond.methodLink "SealFaces" 228 ⟨"SealFaces$Choices", "matched", "()I"⟩ ∈ ab_good := ab_mg sb_t5 89 rfl rfl
set_option maxRecDepth 20000 in
theorem q1161 : Cond.instanceMethod ⟨"SealFaces$Choices", "matched", "()I"⟩ ∈ ab_good := ab_mg sb_t5 90 rfl rfl
set_option maxRecDepth 20000 in
theorem q1162 : Cond.selects "SealFaces$Choices" ⟨"SealFaces$Choices", "matched", "()I"⟩ ⟨"SealFaces$Choices", "matched", "()I"⟩ ∈ ab_good := ab_mg sb_t5 91 rfl rfl
set_option maxRecDepth 20000 in
theorem q1163 : Cond.code ⟨"SealFaces$Choices", "matched", "()I"⟩ prog_2_method_3_code 1 (some .int) ∈ ab_good := ab_mg sb_t5 92 rfl rfl
set_option maxRecDepth 20000 in
theorem q1164 : Cond.methodLink "SealFaces" 231 ⟨"SealFaces$Choices", "matchFor", "(I)I"⟩ ∈ ab_good := ab_mg sb_t5 93 rfl rfl
set_option maxRecDepth 20000 in
theorem q1165 : Cond.instanceMethod ⟨"SealFaces$Choices", "matchFor", "(I)I"⟩ ∈ ab_good := ab_mg sb_t5 94 rfl rfl
set_option maxRecDepth 20000 in
theorem q1166 : Cond.selects "SealFaces$Choices" ⟨"SealFaces$Choices", "matchFor", "(I)I"⟩ ⟨"SealFaces$Choices", "matchFor", "(I)I"⟩ ∈ ab_good := ab_mg sb_t5 95 rfl rfl
set_option maxRecDepth 20000 in
theorem q1167 : Cond.code ⟨"SealFaces$Choices", "matchFor", "(I)I"⟩ prog_2_method_4_code 5 (some .int) ∈ ab_good := ab_mg sb_t5 96 rfl rfl
set_option maxRecDepth 20000 in
theorem q1168 : Cond.methodLink "SealFaces$Choices" 54 ⟨"SealFaces$Choices", "lowestFor", "(II)I"⟩ ∈ ab_good := ab_mg sb_t5 97 rfl rfl
set_option maxRecDepth 20000 in
theorem q1170 : Cond.instanceMethod ⟨"SealFaces$Choices", "lowestFor", "(II)I"⟩ ∈ ab_good := ab_mg sb_t5 99 rfl rfl
set_option maxRecDepth 20000 in
theorem q1171 : Cond.code ⟨"SealFaces$Choices", "lowestFor", "(II)I"⟩ prog_2_method_7_code 5 (some .int) ∈ ab_good := ab_mg sb_t5 100 rfl rfl
set_option maxRecDepth 20000 in
theorem q1172 : Cond.methodLink "SealFacesLaw" 85 ⟨"SealFaces", "greatest", "(I)I"⟩ ∈ ab_good := ab_mg sb_t5 101 rfl rfl
set_option maxRecDepth 20000 in
theorem q1173 : Cond.instanceMethod ⟨"SealFaces", "greatest", "(I)I"⟩ ∈ ab_good := ab_mg sb_t5 102 rfl rfl
set_option maxRecDepth 20000 in
theorem q1174 : Cond.selects "SealFaces" ⟨"SealFaces", "greatest", "(I)I"⟩ ⟨"SealFaces", "greatest", "(I)I"⟩ ∈ ab_good := ab_mg sb_t5 103 rfl rfl
set_option maxRecDepth 20000 in
theorem q1175 : Cond.code ⟨"SealFaces", "greatest", "(I)I"⟩ prog_1_method_18_code 6 (some .int) ∈ ab_good := ab_mg sb_t5 104 rfl rfl
set_option maxRecDepth 20000 in
theorem q1176 : Cond.methodLink "SealFacesLaw" 89 ⟨"SealFaces", "weakest", "(I)I"⟩ ∈ ab_good := ab_mg sb_t5 105 rfl rfl
set_option maxRecDepth 20000 in
theorem q1177 : Cond.instanceMethod ⟨"SealFaces", "weakest", "(I)I"⟩ ∈ ab_good := ab_mg sb_t5 106 rfl rfl
set_option maxRecDepth 20000 in
theorem q1178 : Cond.selects "SealFaces" ⟨"SealFaces", "weakest", "(I)I"⟩ ⟨"SealFaces", "weakest", "(I)I"⟩ ∈ ab_good := ab_mg sb_t5 107 rfl rfl
set_option maxRecDepth 20000 in
theorem q1179 : Cond.code ⟨"SealFaces", "weakest", "(I)I"⟩ prog_1_method_19_code 6 (some .int) ∈ ab_good := ab_mg sb_t5 108 rfl rfl
set_option maxRecDepth 20000 in
theorem q1180 : Cond.methodLink "SealFaces" 237 ⟨"SealFaces$Hall", "treatyBinds", "(I)I"⟩ ∈ ab_good := ab_mg sb_t5 109 rfl rfl
set_option maxRecDepth 20000 in
theorem q1181 : Cond.instanceMethod ⟨"SealFaces$Hall", "treatyBinds", "(I)I"⟩ ∈ ab_good := ab_mg sb_t5 110 rfl rfl
set_option maxRecDepth 20000 in
theorem q1182 : Cond.selects "SealFaces$Hall" ⟨"SealFaces$Hall", "treatyBinds", "(I)I"⟩ ⟨"SealFaces$Hall", "treatyBinds", "(I)I"⟩ ∈ ab_good := ab_mg sb_t5 111 rfl rfl
set_option maxRecDepth 20000 in
theorem q1183 : Cond.code ⟨"SealFaces$Hall", "treatyBinds", "(I)I"⟩ prog_3_method_29_code 2 (some .int) ∈ ab_good := ab_mg sb_t5 112 rfl rfl
set_option maxRecDepth 20000 in
theorem q1184 : Cond.methodLink "SealFaces$Hall" 173 ⟨"SealFaces$Hall", "bindsAfter", "(II)I"⟩ ∈ ab_good := ab_mg sb_t5 113 rfl rfl
set_option maxRecDepth 20000 in
theorem q1185 : Cond.methodLink "SealFacesLaw" 93 ⟨"SealFaces", "hands", "(I)I"⟩ ∈ ab_good := ab_mg sb_t5 114 rfl rfl
set_option maxRecDepth 20000 in
theorem q1186 : Cond.instanceMethod ⟨"SealFaces", "hands", "(I)I"⟩ ∈ ab_good := ab_mg sb_t5 115 rfl rfl
set_option maxRecDepth 20000 in
theorem q1187 : Cond.selects "SealFaces" ⟨"SealFaces", "hands", "(I)I"⟩ ⟨"SealFaces", "hands", "(I)I"⟩ ∈ ab_good := ab_mg sb_t5 116 rfl rfl
set_option maxRecDepth 20000 in
theorem q1188 : Cond.code ⟨"SealFaces", "hands", "(I)I"⟩ prog_1_method_20_code 2 (some .int) ∈ ab_good := ab_mg sb_t5 117 rfl rfl
set_option maxRecDepth 20000 in
theorem q1189 : Cond.methodLink "SealFaces" 240 ⟨"SealFaces$Hall", "clerksFor", "(I)I"⟩ ∈ ab_good := ab_mg sb_t5 118 rfl rfl
set_option maxRecDepth 20000 in
theorem q1190 : Cond.methodLink "SealFacesLaw" 97 ⟨"SealFaces", "work", "(I)I"⟩ ∈ ab_good := ab_mg sb_t5 119 rfl rfl
set_option maxRecDepth 20000 in
theorem q1191 : Cond.instanceMethod ⟨"SealFaces", "work", "(I)I"⟩ ∈ ab_good := ab_mg sb_t5 120 rfl rfl
set_option maxRecDepth 20000 in
theorem q1192 : Cond.selects "SealFaces" ⟨"SealFaces", "work", "(I)I"⟩ ⟨"SealFaces", "work", "(I)I"⟩ ∈ ab_good := ab_mg sb_t5 121 rfl rfl
set_option maxRecDepth 20000 in
theorem q1193 : Cond.code ⟨"SealFaces", "work", "(I)I"⟩ prog_1_method_21_code 2 (some .int) ∈ ab_good := ab_mg sb_t5 122 rfl rfl
set_option maxRecDepth 20000 in
theorem q1194 : Cond.methodLink "SealFaces" 243 ⟨"SealFaces$Hall", "deedsFor", "(I)I"⟩ ∈ ab_good := ab_mg sb_t5 123 rfl rfl
set_option maxRecDepth 20000 in
theorem q1195 : Cond.instanceMethod ⟨"SealFaces$Hall", "deedsFor", "(I)I"⟩ ∈ ab_good := ab_mg sb_t5 124 rfl rfl
set_option maxRecDepth 20000 in
theorem q1196 : Cond.selects "SealFaces$Hall" ⟨"SealFaces$Hall", "deedsFor", "(I)I"⟩ ⟨"SealFaces$Hall", "deedsFor", "(I)I"⟩ ∈ ab_good := ab_mg sb_t5 125 rfl rfl
set_option maxRecDepth 20000 in
theorem q1197 : Cond.code ⟨"SealFaces$Hall", "deedsFor", "(I)I"⟩ prog_3_method_31_code 4 (some .int) ∈ ab_good := ab_mg sb_t5 126 rfl rfl
set_option maxRecDepth 20000 in
theorem q1198 : Cond.methodLink "SealFacesLaw" 101 ⟨"SealFaces", "game", "(I)I"⟩ ∈ ab_good := ab_mg sb_t5 127 rfl rfl
set_option maxRecDepth 20000 in
theorem q1199 : Cond.instanceMethod ⟨"SealFaces", "game", "(I)I"⟩ ∈ ab_good := ab_mg sb_t5 128 rfl rfl
set_option maxRecDepth 20000 in
theorem q1200 : Cond.selects "SealFaces" ⟨"SealFaces", "game", "(I)I"⟩ ⟨"SealFaces", "game", "(I)I"⟩ ∈ ab_good := ab_mg sb_t5 129 rfl rfl
set_option maxRecDepth 20000 in
theorem q1201 : Cond.code ⟨"SealFaces", "game", "(I)I"⟩ prog_1_method_22_code 2 (some .int) ∈ ab_good := ab_mg sb_t5 130 rfl rfl
set_option maxRecDepth 20000 in
theorem q1202 : Cond.constant "SealFaces" 246 (-100000) ∈ ab_good := ab_mg sb_t5 131 rfl rfl
set_option maxRecDepth 20000 in
theorem q1203 : Cond.methodLink "SealFaces" 247 ⟨"SealFaces$Choices", "fillGains", "()V"⟩ ∈ ab_good := ab_mg sb_t5 132 rfl rfl
set_option maxRecDepth 20000 in
theorem q1204 : Cond.instanceMethod ⟨"SealFaces$Choices", "fillGains", "()V"⟩ ∈ ab_good := ab_mg sb_t5 133 rfl rfl
set_option maxRecDepth 20000 in
theorem q1205 : Cond.selects "SealFaces$Choices" ⟨"SealFaces$Choices", "fillGains", "()V"⟩ ⟨"SealFaces$Choices", "fillGains", "()V"⟩ ∈ ab_good := ab_mg sb_t5 134 rfl rfl
set_option maxRecDepth 20000 in
theorem q1206 : Cond.code ⟨"SealFaces$Choices", "fillGains", "()V"⟩ prog_2_method_8_code 5 none ∈ ab_good := ab_mg sb_t5 135 rfl rfl
set_option maxRecDepth 20000 in
theorem q1207 : Cond.methodLink "SealFaces$Choices" 70 ⟨"SealFaces$Choices", "closedDeeds", "()I"⟩ ∈ ab_good := ab_mg sb_t5 136 rfl rfl
set_option maxRecDepth 20000 in
theorem q1209 : Cond.instanceMethod ⟨"SealFaces$Choices", "closedDeeds", "()I"⟩ ∈ ab_good := ab_mg sb_t5 138 rfl rfl
set_option maxRecDepth 20000 in
theorem q1210 : Cond.code ⟨"SealFaces$Choices", "closedDeeds", "()I"⟩ prog_2_method_11_code 1 (some .int) ∈ ab_good := ab_mg sb_t5 139 rfl rfl
set_option maxRecDepth 20000 in
theorem q1211 : Cond.methodLink "SealFaces$Choices" 81 ⟨"SealFaces$Hall", "deedsWith", "(I)I"⟩ ∈ ab_good := ab_mg sb_t5 140 rfl rfl
set_option maxRecDepth 20000 in
theorem q1212 : Cond.methodLink "SealFaces$Choices" 74 ⟨"SealFaces$Hall", "bindsAfter", "(II)I"⟩ ∈ ab_good := ab_mg sb_t5 141 rfl rfl
set_option maxRecDepth 20000 in
theorem q1213 : Cond.constant "SealFaces$Choices" 77 (-1000000000) ∈ ab_good := ab_mg sb_t5 142 rfl rfl
set_option maxRecDepth 20000 in
theorem q1214 : Cond.methodLink "SealFaces$Choices" 78 ⟨"SealFaces$Choices", "gainBy", "(II)I"⟩ ∈ ab_good := ab_mg sb_t5 143 rfl rfl
set_option maxRecDepth 20000 in
theorem q1216 : Cond.instanceMethod ⟨"SealFaces$Choices", "gainBy", "(II)I"⟩ ∈ ab_good := ab_mg sb_t5 145 rfl rfl
set_option maxRecDepth 20000 in
theorem q1217 : Cond.code ⟨"SealFaces$Choices", "gainBy", "(II)I"⟩ prog_2_method_12_code 3 (some .int) ∈ ab_good := ab_mg sb_t5 146 rfl rfl
set_option maxRecDepth 20000 in
theorem q1218 : Cond.methodLink "SealFaces" 250 ⟨"SealFaces$Choices", "princesGain", "()I"⟩ ∈ ab_good := ab_mg sb_t5 147 rfl rfl
set_option maxRecDepth 20000 in
theorem q1219 : Cond.instanceMethod ⟨"SealFaces$Choices", "princesGain", "()I"⟩ ∈ ab_good := ab_mg sb_t5 148 rfl rfl
set_option maxRecDepth 20000 in
theorem q1220 : Cond.selects "SealFaces$Choices" ⟨"SealFaces$Choices", "princesGain", "()I"⟩ ⟨"SealFaces$Choices", "princesGain", "()I"⟩ ∈ ab_good := ab_mg sb_t5 149 rfl rfl
set_option maxRecDepth 20000 in
theorem q1221 : Cond.code ⟨"SealFaces$Choices", "princesGain", "()I"⟩ prog_2_method_9_code 1 (some .int) ∈ ab_good := ab_mg sb_t5 150 rfl rfl
set_option maxRecDepth 20000 in
theorem q1222 : Cond.methodLink "SealFaces" 253 ⟨"SealFaces$Choices", "princesPick", "()I"⟩ ∈ ab_good := ab_mg sb_t5 151 rfl rfl
set_option maxRecDepth 20000 in
theorem q1223 : Cond.instanceMethod ⟨"SealFaces$Choices", "princesPick", "()I"⟩ ∈ ab_good := ab_mg sb_t5 152 rfl rfl
set_option maxRecDepth 20000 in
theorem q1224 : Cond.selects "SealFaces$Choices" ⟨"SealFaces$Choices", "princesPick", "()I"⟩ ⟨"SealFaces$Choices", "princesPick", "()I"⟩ ∈ ab_good := ab_mg sb_t5 153 rfl rfl
set_option maxRecDepth 20000 in
theorem q1225 : Cond.code ⟨"SealFaces$Choices", "princesPick", "()I"⟩ prog_2_method_10_code 3 (some .int) ∈ ab_good := ab_mg sb_t5 154 rfl rfl
set_option maxRecDepth 20000 in
theorem q1226 : Cond.methodLink "SealFacesLaw" 105 ⟨"SealFaces", "breaks", "(I)I"⟩ ∈ ab_good := ab_mg sb_t5 155 rfl rfl
set_option maxRecDepth 20000 in
theorem q1227 : Cond.instanceMethod ⟨"SealFaces", "breaks", "(I)I"⟩ ∈ ab_good := ab_mg sb_t5 156 rfl rfl
set_option maxRecDepth 20000 in
theorem q1228 : Cond.selects "SealFaces" ⟨"SealFaces", "breaks", "(I)I"⟩ ⟨"SealFaces", "breaks", "(I)I"⟩ ∈ ab_good := ab_mg sb_t5 157 rfl rfl
set_option maxRecDepth 20000 in
theorem q1229 : Cond.code ⟨"SealFaces", "breaks", "(I)I"⟩ prog_1_method_23_code 2 (some .int) ∈ ab_good := ab_mg sb_t5 158 rfl rfl
set_option maxRecDepth 20000 in
theorem q1230 : Cond.methodLink "SealFaces" 256 ⟨"SealFaces$Choices", "breakers", "()I"⟩ ∈ ab_good := ab_mg sb_t5 159 rfl rfl
set_option maxRecDepth 20000 in
theorem q1231 : Cond.instanceMethod ⟨"SealFaces$Choices", "breakers", "()I"⟩ ∈ ab_good := ab_mg sb_t5 160 rfl rfl
set_option maxRecDepth 20000 in
theorem q1232 : Cond.selects "SealFaces$Choices" ⟨"SealFaces$Choices", "breakers", "()I"⟩ ⟨"SealFaces$Choices", "breakers", "()I"⟩ ∈ ab_good := ab_mg sb_t5 161 rfl rfl
set_option maxRecDepth 20000 in
theorem q1233 : Cond.code ⟨"SealFaces$Choices", "breakers", "()I"⟩ prog_2_method_13_code 3 (some .int) ∈ ab_good := ab_mg sb_t5 162 rfl rfl
set_option maxRecDepth 20000 in
theorem q1234 : Cond.methodLink "SealFaces$Choices" 84 ⟨"java/lang/Integer", "bitCount", "(I)I"⟩ ∈ ab_good := ab_mg sb_t5 163 rfl rfl
set_option maxRecDepth 20000 in
theorem q1235 : Cond.methodLink "SealFaces$Choices" 89 ⟨"SealFaces$Choices", "breakAll", "(I)Z"⟩ ∈ ab_good := ab_mg sb_t5 164 rfl rfl
set_option maxRecDepth 20000 in
theorem q1237 : Cond.instanceMethod ⟨"SealFaces$Choices", "breakAll", "(I)Z"⟩ ∈ ab_good := ab_mg sb_t5 166 rfl rfl
set_option maxRecDepth 20000 in
theorem q1238 : Cond.code ⟨"SealFaces$Choices", "breakAll", "(I)Z"⟩ prog_2_method_14_code 3 (some .boolean) ∈ ab_good := ab_mg sb_t5 167 rfl rfl
set_option maxRecDepth 20000 in
theorem q1239 : Cond.methodLink "SealFaces$Choices" 96 ⟨"SealFaces$Hall", "isHeld", "(I)Z"⟩ ∈ ab_good := ab_mg sb_t5 168 rfl rfl
set_option maxRecDepth 20000 in
theorem q1240 : Cond.methodLink "SealFaces$Choices" 99 ⟨"SealFaces$Choices", "isSealedByOne", "(II)Z"⟩ ∈ ab_good := ab_mg sb_t5 169 rfl rfl
set_option maxRecDepth 20000 in
theorem q1242 : Cond.instanceMethod ⟨"SealFaces$Choices", "isSealedByOne", "(II)Z"⟩ ∈ ab_good := ab_mg sb_t5 171 rfl rfl
set_option maxRecDepth 20000 in
theorem q1243 : Cond.code ⟨"SealFaces$Choices", "isSealedByOne", "(II)Z"⟩ prog_2_method_15_code 5 (some .boolean) ∈ ab_good := ab_mg sb_t5 172 rfl rfl
set_option maxRecDepth 20000 in
theorem q1244 : Cond.methodLink "SealFaces$Choices" 106 ⟨"SealFaces$Text", "treatyDeed", "(II)I"⟩ ∈ ab_good := ab_mg sb_t5 173 rfl rfl
set_option maxRecDepth 20000 in
theorem q1245 : Cond.methodLink "SealFaces$Choices" 109 ⟨"SealFaces$Scene", "sealerOf", "(I)I"⟩ ∈ ab_good := ab_mg sb_t5 174 rfl rfl
set_option maxRecDepth 20000 in
theorem q1246 : Cond.methodLink "SealFacesLaw" 109 ⟨"SealFaces", "lent", "(II)I"⟩ ∈ ab_good := ab_mg sb_t5 175 rfl rfl
set_option maxRecDepth 20000 in
theorem q1247 : Cond.instanceMethod ⟨"SealFaces", "lent", "(II)I"⟩ ∈ ab_good := ab_mg sb_t5 176 rfl rfl
set_option maxRecDepth 20000 in
theorem q1248 : Cond.selects "SealFaces" ⟨"SealFaces", "lent", "(II)I"⟩ ⟨"SealFaces", "lent", "(II)I"⟩ ∈ ab_good := ab_mg sb_t5 177 rfl rfl
set_option maxRecDepth 20000 in
theorem q1249 : Cond.code ⟨"SealFaces", "lent", "(II)I"⟩ prog_1_method_24_code 5 (some .int) ∈ ab_good := ab_mg sb_t5 178 rfl rfl
set_option maxRecDepth 20000 in
theorem q1250 : Cond.methodLink "SealFacesLaw" 113 ⟨"SealFaces", "apart", "(II)I"⟩ ∈ ab_good := ab_mg sb_t5 179 rfl rfl
set_option maxRecDepth 20000 in
theorem q1251 : Cond.instanceMethod ⟨"SealFaces", "apart", "(II)I"⟩ ∈ ab_good := ab_mg sb_t5 180 rfl rfl
set_option maxRecDepth 20000 in
theorem q1252 : Cond.selects "SealFaces" ⟨"SealFaces", "apart", "(II)I"⟩ ⟨"SealFaces", "apart", "(II)I"⟩ ∈ ab_good := ab_mg sb_t5 181 rfl rfl
set_option maxRecDepth 20000 in
theorem q1253 : Cond.code ⟨"SealFaces", "apart", "(II)I"⟩ prog_1_method_25_code 3 (some .int) ∈ ab_good := ab_mg sb_t5 182 rfl rfl
set_option maxRecDepth 20000 in
theorem q1254 : Cond.methodLink "SealFaces" 259 ⟨"SealFaces$Hall", "printsDiffer", "(II)I"⟩ ∈ ab_good := ab_mg sb_t5 183 rfl rfl
set_option maxRecDepth 20000 in
theorem q1255 : Cond.instanceMethod ⟨"SealFaces$Hall", "printsDiffer", "(II)I"⟩ ∈ ab_good := ab_mg sb_t5 184 rfl rfl
set_option maxRecDepth 20000 in
theorem q1256 : Cond.selects "SealFaces$Hall" ⟨"SealFaces$Hall", "printsDiffer", "(II)I"⟩ ⟨"SealFaces$Hall", "printsDiffer", "(II)I"⟩ ∈ ab_good := ab_mg sb_t5 185 rfl rfl
set_option maxRecDepth 20000 in
theorem q1257 : Cond.code ⟨"SealFaces$Hall", "printsDiffer", "(II)I"⟩ prog_3_method_37_code 5 (some .int) ∈ ab_good := ab_mg sb_t5 186 rfl rfl
set_option maxRecDepth 20000 in
theorem q1258 : Cond.methodLink "SealFaces$Hall" 198 ⟨"java/lang/Math", "abs", "(I)I"⟩ ∈ ab_good := ab_mg sb_t5 187 rfl rfl
set_option maxRecDepth 20000 in
theorem q1259 : Cond.static ⟨"java/lang/Math", "abs", "(I)I"⟩ ∈ ab_good := ab_mg sb_t5 188 rfl rfl
set_option maxRecDepth 20000 in
theorem q1260 : Cond.code ⟨"java/lang/Math", "abs", "(I)I"⟩ prog_17_method_59_code 1 (some .int) ∈ ab_good := ab_mg sb_t5 189 rfl rfl
set_option maxRecDepth 20000 in
theorem q1261 : Cond.methodLink "SealFacesLaw" 117 ⟨"SealFaces", "like", "(I)I"⟩ ∈ ab_good := ab_mg sb_t5 190 rfl rfl
set_option maxRecDepth 20000 in
theorem q1262 : Cond.instanceMethod ⟨"SealFaces", "like", "(I)I"⟩ ∈ ab_good := ab_mg sb_t5 191 rfl rfl
set_option maxRecDepth 20000 in
theorem q1263 : Cond.selects "SealFaces" ⟨"SealFaces", "like", "(I)I"⟩ ⟨"SealFaces", "like", "(I)I"⟩ ∈ ab_good := ab_mg sb_t5 192 rfl rfl
set_option maxRecDepth 20000 in
theorem q1264 : Cond.code ⟨"SealFaces", "like", "(I)I"⟩ prog_1_method_26_code 8 (some .int) ∈ ab_good := ab_mg sb_t5 193 rfl rfl
set_option maxRecDepth 20000 in
theorem q1265 : Cond.methodLink "SealFacesLaw" 121 ⟨"SealFaces", "twins", "(II)I"⟩ ∈ ab_good := ab_mg sb_t5 194 rfl rfl
set_option maxRecDepth 20000 in
theorem q1266 : Cond.instanceMethod ⟨"SealFaces", "twins", "(II)I"⟩ ∈ ab_good := ab_mg sb_t5 195 rfl rfl
set_option maxRecDepth 20000 in
theorem q1267 : Cond.selects "SealFaces" ⟨"SealFaces", "twins", "(II)I"⟩ ⟨"SealFaces", "twins", "(II)I"⟩ ∈ ab_good := ab_mg sb_t5 196 rfl rfl
set_option maxRecDepth 20000 in
theorem q1268 : Cond.code ⟨"SealFaces", "twins", "(II)I"⟩ prog_1_method_27_code 8 (some .int) ∈ ab_good := ab_mg sb_t5 197 rfl rfl
set_option maxRecDepth 20000 in
theorem q1269 : Cond.methodLink "SealFaces" 265 ⟨"java/lang/Math", "abs", "(I)I"⟩ ∈ ab_good := ab_mg sb_t5 198 rfl rfl
set_option maxRecDepth 20000 in
theorem q1270 : Cond.methodLink "SealFacesLaw" 125 ⟨"SealFaces", "heals", "(I)I"⟩ ∈ ab_good := ab_mg sb_t5 199 rfl rfl
set_option maxRecDepth 20000 in
theorem q1271 : Cond.instanceMethod ⟨"SealFaces", "heals", "(I)I"⟩ ∈ ab_good := ab_mg sb_t5 200 rfl rfl
set_option maxRecDepth 20000 in
theorem q1272 : Cond.selects "SealFaces" ⟨"SealFaces", "heals", "(I)I"⟩ ⟨"SealFaces", "heals", "(I)I"⟩ ∈ ab_good := ab_mg sb_t5 201 rfl rfl
set_option maxRecDepth 20000 in
theorem q1273 : Cond.code ⟨"SealFaces", "heals", "(I)I"⟩ prog_1_method_28_code 4 (some .int) ∈ ab_good := ab_mg sb_t5 202 rfl rfl
set_option maxRecDepth 20000 in
theorem q1274 : Cond.methodLink "SealFaces" 270 ⟨"SealFaces$Hall", "yearsToHeal", "(II)I"⟩ ∈ ab_good := ab_mg sb_t5 203 rfl rfl
set_option maxRecDepth 20000 in
theorem q1275 : Cond.instanceMethod ⟨"SealFaces$Hall", "yearsToHeal", "(II)I"⟩ ∈ ab_good := ab_mg sb_t5 204 rfl rfl
set_option maxRecDepth 20000 in
theorem q1276 : Cond.selects "SealFaces$Hall" ⟨"SealFaces$Hall", "yearsToHeal", "(II)I"⟩ ⟨"SealFaces$Hall", "yearsToHeal", "(II)I"⟩ ∈ ab_good := ab_mg sb_t5 205 rfl rfl
set_option maxRecDepth 20000 in
theorem q1277 : Cond.code ⟨"SealFaces$Hall", "yearsToHeal", "(II)I"⟩ prog_3_method_23_code 6 (some .int) ∈ ab_good := ab_mg sb_t5 206 rfl rfl
set_option maxRecDepth 20000 in
theorem q1278 : Cond.methodLink "SealFaces" 273 ⟨"SealFaces", "laterOf", "(II)I"⟩ ∈ ab_good := ab_mg sb_t5 207 rfl rfl
set_option maxRecDepth 20000 in
theorem q1279 : Cond.static ⟨"SealFaces", "laterOf", "(II)I"⟩ ∈ ab_good := ab_mg sb_t5 208 rfl rfl
set_option maxRecDepth 20000 in
theorem q1280 : Cond.code ⟨"SealFaces", "laterOf", "(II)I"⟩ prog_1_method_50_code 2 (some .int) ∈ ab_good := ab_mg sb_t5 209 rfl rfl
set_option maxRecDepth 20000 in
theorem q1281 : Cond.methodLink "SealFacesLaw" 129 ⟨"SealFaces", "blank", "(I)I"⟩ ∈ ab_good := ab_mg sb_t5 210 rfl rfl
set_option maxRecDepth 20000 in
theorem q1282 : Cond.instanceMethod ⟨"SealFaces", "blank", "(I)I"⟩ ∈ ab_good := ab_mg sb_t5 211 rfl rfl
set_option maxRecDepth 20000 in
theorem q1283 : Cond.selects "SealFaces" ⟨"SealFaces", "blank", "(I)I"⟩ ⟨"SealFaces", "blank", "(I)I"⟩ ∈ ab_good := ab_mg sb_t5 212 rfl rfl
set_option maxRecDepth 20000 in
theorem q1284 : Cond.code ⟨"SealFaces", "blank", "(I)I"⟩ prog_1_method_29_code 4 (some .int) ∈ ab_good := ab_mg sb_t5 213 rfl rfl
set_option maxRecDepth 20000 in
theorem q1285 : Cond.methodLink "SealFaces" 276 ⟨"SealFaces$Hall", "yearsToFade", "(II)I"⟩ ∈ ab_good := ab_mg sb_t5 214 rfl rfl
set_option maxRecDepth 20000 in
theorem q1286 : Cond.instanceMethod ⟨"SealFaces$Hall", "yearsToFade", "(II)I"⟩ ∈ ab_good := ab_mg sb_t5 215 rfl rfl
set_option maxRecDepth 20000 in
theorem q1287 : Cond.selects "SealFaces$Hall" ⟨"SealFaces$Hall", "yearsToFade", "(II)I"⟩ ⟨"SealFaces$Hall", "yearsToFade", "(II)I"⟩ ∈ ab_good := ab_mg sb_t5 216 rfl rfl
set_option maxRecDepth 20000 in
theorem q1288 : Cond.code ⟨"SealFaces$Hall", "yearsToFade", "(II)I"⟩ prog_3_method_24_code 5 (some .int) ∈ ab_good := ab_mg sb_t5 217 rfl rfl
set_option maxRecDepth 20000 in
theorem q1289 : Cond.methodLink "SealFacesLaw" 133 ⟨"SealFaces", "barest", "(I)I"⟩ ∈ ab_good := ab_mg sb_t5 218 rfl rfl
set_option maxRecDepth 20000 in
theorem q1290 : Cond.instanceMethod ⟨"SealFaces", "barest", "(I)I"⟩ ∈ ab_good := ab_mg sb_t5 219 rfl rfl
set_option maxRecDepth 20000 in
theorem q1291 : Cond.selects "SealFaces" ⟨"SealFaces", "barest", "(I)I"⟩ ⟨"SealFaces", "barest", "(I)I"⟩ ∈ ab_good := ab_mg sb_t5 220 rfl rfl
set_option maxRecDepth 20000 in
theorem q1292 : Cond.code ⟨"SealFaces", "barest", "(I)I"⟩ prog_1_method_30_code 6 (some .int) ∈ ab_good := ab_mg sb_t5 221 rfl rfl
set_option maxRecDepth 20000 in
theorem q1293 : Cond.methodLink "SealFaces" 279 ⟨"SealFaces$Hall", "levelsOf", "(I)I"⟩ ∈ ab_good := ab_mg sb_t5 222 rfl rfl
set_option maxRecDepth 20000 in
theorem q1294 : Cond.instanceMethod ⟨"SealFaces$Hall", "levelsOf", "(I)I"⟩ ∈ ab_good := ab_mg sb_t5 223 rfl rfl
set_option maxRecDepth 20000 in
theorem q1295 : Cond.selects "SealFaces$Hall" ⟨"SealFaces$Hall", "levelsOf", "(I)I"⟩ ⟨"SealFaces$Hall", "levelsOf", "(I)I"⟩ ∈ ab_good := ab_mg sb_t5 224 rfl rfl
set_option maxRecDepth 20000 in
theorem q1296 : Cond.code ⟨"SealFaces$Hall", "levelsOf", "(I)I"⟩ prog_3_method_34_code 4 (some .int) ∈ ab_good := ab_mg sb_t5 225 rfl rfl
set_option maxRecDepth 20000 in
theorem q1297 : Cond.methodLink "SealFacesLaw" 137 ⟨"SealFaces", "reads", "(I)I"⟩ ∈ ab_good := ab_mg sb_t5 226 rfl rfl
set_option maxRecDepth 20000 in
theorem q1298 : Cond.instanceMethod ⟨"SealFaces", "reads", "(I)I"⟩ ∈ ab_good := ab_mg sb_t5 227 rfl rfl
set_option maxRecDepth 20000 in
theorem q1299 : Cond.selects "SealFaces" ⟨"SealFaces", "reads", "(I)I"⟩ ⟨"SealFaces", "reads", "(I)I"⟩ ∈ ab_good := ab_mg sb_t5 228 rfl rfl
set_option maxRecDepth 20000 in
theorem q1300 : Cond.code ⟨"SealFaces", "reads", "(I)I"⟩ prog_1_method_31_code 2 (some .int) ∈ ab_good := ab_mg sb_t5 229 rfl rfl
set_option maxRecDepth 20000 in
theorem q1301 : Cond.methodLink "SealFaces" 282 ⟨"SealFaces$Hall", "isSealed", "(I)Z"⟩ ∈ ab_good := ab_mg sb_t5 230 rfl rfl
set_option maxRecDepth 20000 in
theorem q1302 : Cond.methodLink "SealFaces" 288 ⟨"SealFaces$Hall", "readBy", "(II)I"⟩ ∈ ab_good := ab_mg sb_t5 231 rfl rfl
set_option maxRecDepth 20000 in
theorem q1303 : Cond.instanceMethod ⟨"SealFaces$Hall", "readBy", "(II)I"⟩ ∈ ab_good := ab_mg sb_t5 232 rfl rfl
set_option maxRecDepth 20000 in
theorem q1304 : Cond.selects "SealFaces$Hall" ⟨"SealFaces$Hall", "readBy", "(II)I"⟩ ⟨"SealFaces$Hall", "readBy", "(II)I"⟩ ∈ ab_good := ab_mg sb_t5 233 rfl rfl
set_option maxRecDepth 20000 in
theorem q1305 : Cond.code ⟨"SealFaces$Hall", "readBy", "(II)I"⟩ prog_3_method_38_code 4 (some .int) ∈ ab_good := ab_mg sb_t5 234 rfl rfl
set_option maxRecDepth 20000 in
theorem q1306 : Cond.methodLink "SealFaces$Hall" 201 ⟨"SealFaces$Hall", "lot", "(III)I"⟩ ∈ ab_good := ab_mg sb_t5 235 rfl rfl
set_option maxRecDepth 20000 in
theorem q1307 : Cond.static ⟨"SealFaces$Hall", "lot", "(III)I"⟩ ∈ ab_good := ab_mg sb_t5 236 rfl rfl
set_option maxRecDepth 20000 in
theorem q1308 : Cond.code ⟨"SealFaces$Hall", "lot", "(III)I"⟩ prog_3_method_39_code 4 (some .int) ∈ ab_good := ab_mg sb_t5 237 rfl rfl
set_option maxRecDepth 20000 in
theorem q1309 : Cond.methodLink "SealFaces$Hall" 207 ⟨"SealFaces$Hall", "mixed", "(II)I"⟩ ∈ ab_good := ab_mg sb_t5 238 rfl rfl
set_option maxRecDepth 20000 in
theorem q1310 : Cond.static ⟨"SealFaces$Hall", "mixed", "(II)I"⟩ ∈ ab_good := ab_mg sb_t5 239 rfl rfl
set_option maxRecDepth 20000 in
theorem q1311 : Cond.code ⟨"SealFaces$Hall", "mixed", "(II)I"⟩ prog_3_method_40_code 3 (some .int) ∈ ab_good := ab_mg sb_t6 0 rfl rfl
set_option maxRecDepth 20000 in
theorem q1312 : Cond.constant "SealFaces$Hall" 210 (1103515245) ∈ ab_good := ab_mg sb_t6 1 rfl rfl
set_option maxRecDepth 20000 in
theorem q1313 : Cond.methodLink "SealFacesLaw" 141 ⟨"SealFaces", "levelIn", "(III)I"⟩ ∈ ab_good := ab_mg sb_t6 2 rfl rfl
set_option maxRecDepth 20000 in
theorem q1314 : Cond.instanceMethod ⟨"SealFaces", "levelIn", "(III)I"⟩ ∈ ab_good := ab_mg sb_t6 3 rfl rfl
set_option maxRecDepth 20000 in
theorem q1315 : Cond.selects "SealFaces" ⟨"SealFaces", "levelIn", "(III)I"⟩ ⟨"SealFaces", "levelIn", "(III)I"⟩ ∈ ab_good := ab_mg sb_t6 4 rfl rfl
set_option maxRecDepth 20000 in
theorem q1316 : Cond.code ⟨"SealFaces", "levelIn", "(III)I"⟩ prog_1_method_32_code 4 (some .int) ∈ ab_good := ab_mg sb_t6 5 rfl rfl
set_option maxRecDepth 20000 in
theorem q1317 : Cond.methodLink "SealFaces" 291 ⟨"SealFaces$Hall", "levelAfter", "(III)I"⟩ ∈ ab_good := ab_mg sb_t6 6 rfl rfl
set_option maxRecDepth 20000 in
theorem q1318 : Cond.methodLink "SealFacesLaw" 145 ⟨"SealFaces", "printIn", "(III)I"⟩ ∈ ab_good := ab_mg sb_t6 7 rfl rfl
set_option maxRecDepth 20000 in
theorem q1319 : Cond.instanceMethod ⟨"SealFaces", "printIn", "(III)I"⟩ ∈ ab_good := ab_mg sb_t6 8 rfl rfl
set_option maxRecDepth 20000 in
theorem q1320 : Cond.selects "SealFaces" ⟨"SealFaces", "printIn", "(III)I"⟩ ⟨"SealFaces", "printIn", "(III)I"⟩ ∈ ab_good := ab_mg sb_t6 9 rfl rfl
set_option maxRecDepth 20000 in
theorem q1321 : Cond.code ⟨"SealFaces", "printIn", "(III)I"⟩ prog_1_method_33_code 4 (some .int) ∈ ab_good := ab_mg sb_t6 10 rfl rfl
set_option maxRecDepth 20000 in
theorem q1322 : Cond.methodLink "SealFaces" 294 ⟨"SealFaces$Hall", "printAfter", "(III)I"⟩ ∈ ab_good := ab_mg sb_t6 11 rfl rfl
set_option maxRecDepth 20000 in
theorem q1323 : Cond.methodLink "SealFacesLaw" 149 ⟨"SealFaces", "bindsIn", "(I)I"⟩ ∈ ab_good := ab_mg sb_t6 12 rfl rfl
set_option maxRecDepth 20000 in
theorem q1324 : Cond.instanceMethod ⟨"SealFaces", "bindsIn", "(I)I"⟩ ∈ ab_good := ab_mg sb_t6 13 rfl rfl
set_option maxRecDepth 20000 in
theorem q1325 : Cond.selects "SealFaces" ⟨"SealFaces", "bindsIn", "(I)I"⟩ ⟨"SealFaces", "bindsIn", "(I)I"⟩ ∈ ab_good := ab_mg sb_t6 14 rfl rfl
set_option maxRecDepth 20000 in
theorem q1326 : Cond.code ⟨"SealFaces", "bindsIn", "(I)I"⟩ prog_1_method_34_code 2 (some .int) ∈ ab_good := ab_mg sb_t6 15 rfl rfl
set_option maxRecDepth 20000 in
theorem q1327 : Cond.methodLink "SealFaces" 297 ⟨"SealFaces$Hall", "allBindAfter", "(I)I"⟩ ∈ ab_good := ab_mg sb_t6 16 rfl rfl
set_option maxRecDepth 20000 in
theorem q1328 : Cond.instanceMethod ⟨"SealFaces$Hall", "allBindAfter", "(I)I"⟩ ∈ ab_good := ab_mg sb_t6 17 rfl rfl
set_option maxRecDepth 20000 in
theorem q1329 : Cond.selects "SealFaces$Hall" ⟨"SealFaces$Hall", "allBindAfter", "(I)I"⟩ ⟨"SealFaces$Hall", "allBindAfter", "(I)I"⟩ ∈ ab_good := ab_mg sb_t6 18 rfl rfl
set_option maxRecDepth 20000 in
theorem q1330 : Cond.code ⟨"SealFaces$Hall", "allBindAfter", "(I)I"⟩ prog_3_method_26_code 4 (some .int) ∈ ab_good := ab_mg sb_t6 19 rfl rfl
set_option maxRecDepth 20000 in
theorem q1331 : Cond.methodLink "SealFacesLaw" 153 ⟨"SealFaces", "year", "(II)I"⟩ ∈ ab_good := ab_mg sb_t6 20 rfl rfl
set_option maxRecDepth 20000 in
theorem q1332 : Cond.instanceMethod ⟨"SealFaces", "year", "(II)I"⟩ ∈ ab_good := ab_mg sb_t6 21 rfl rfl
set_option maxRecDepth 20000 in
theorem q1333 : Cond.selects "SealFaces" ⟨"SealFaces", "year", "(II)I"⟩ ⟨"SealFaces", "year", "(II)I"⟩ ∈ ab_good := ab_mg sb_t6 22 rfl rfl
set_option maxRecDepth 20000 in
theorem q1334 : Cond.code ⟨"SealFaces", "year", "(II)I"⟩ prog_1_method_35_code 5 (some .int) ∈ ab_good := ab_mg sb_t6 23 rfl rfl
set_option maxRecDepth 20000 in
theorem q1335 : Cond.methodLink "SealFacesLaw" 157 ⟨"SealFaces", "tell", "(IIZ)I"⟩ ∈ ab_good := ab_mg sb_t6 24 rfl rfl
set_option maxRecDepth 20000 in
theorem q1336 : Cond.instanceMethod ⟨"SealFaces", "tell", "(IIZ)I"⟩ ∈ ab_good := ab_mg sb_t6 25 rfl rfl
set_option maxRecDepth 20000 in
theorem q1337 : Cond.selects "SealFaces" ⟨"SealFaces", "tell", "(IIZ)I"⟩ ⟨"SealFaces", "tell", "(IIZ)I"⟩ ∈ ab_good := ab_mg sb_t6 26 rfl rfl
set_option maxRecDepth 20000 in
theorem q1338 : Cond.code ⟨"SealFaces", "tell", "(IIZ)I"⟩ prog_1_method_36_code 4 (some .int) ∈ ab_good := ab_mg sb_t6 27 rfl rfl
set_option maxRecDepth 20000 in
theorem q1339 : Cond.methodLink "SealFaces" 300 ⟨"SealFaces", "isLevel", "(I)Z"⟩ ∈ ab_good := ab_mg sb_t6 28 rfl rfl
set_option maxRecDepth 20000 in
theorem q1340 : Cond.static ⟨"SealFaces", "isLevel", "(I)Z"⟩ ∈ ab_good := ab_mg sb_t6 29 rfl rfl
set_option maxRecDepth 20000 in
theorem q1341 : Cond.code ⟨"SealFaces", "isLevel", "(I)Z"⟩ prog_1_method_46_code 1 (some .boolean) ∈ ab_good := ab_mg sb_t6 30 rfl rfl
set_option maxRecDepth 20000 in
theorem q1342 : Cond.methodLink "SealFaces" 303 ⟨"SealFaces$Told", "add", "(IIZ)I"⟩ ∈ ab_good := ab_mg sb_t6 31 rfl rfl
set_option maxRecDepth 20000 in
theorem q1343 : Cond.instanceMethod ⟨"SealFaces$Told", "add", "(IIZ)I"⟩ ∈ ab_good := ab_mg sb_t6 32 rfl rfl
set_option maxRecDepth 20000 in
theorem q1344 : Cond.selects "SealFaces$Told" ⟨"SealFaces$Told", "add", "(IIZ)I"⟩ ⟨"SealFaces$Told", "add", "(IIZ)I"⟩ ∈ ab_good := ab_mg sb_t6 33 rfl rfl
set_option maxRecDepth 20000 in
theorem q1345 : Cond.code ⟨"SealFaces$Told", "add", "(IIZ)I"⟩ prog_12_method_2_code 4 (some .int) ∈ ab_good := ab_mg sb_t6 34 rfl rfl
set_option maxRecDepth 20000 in
theorem q1346 : Cond.methodLink "SealFacesLaw" 162 ⟨"SealFaces", "forget", "()I"⟩ ∈ ab_good := ab_mg sb_t6 35 rfl rfl
set_option maxRecDepth 20000 in
theorem q1347 : Cond.instanceMethod ⟨"SealFaces", "forget", "()I"⟩ ∈ ab_good := ab_mg sb_t6 36 rfl rfl
set_option maxRecDepth 20000 in
theorem q1348 : Cond.selects "SealFaces" ⟨"SealFaces", "forget", "()I"⟩ ⟨"SealFaces", "forget", "()I"⟩ ∈ ab_good := ab_mg sb_t6 37 rfl rfl
set_option maxRecDepth 20000 in
theorem q1349 : Cond.code ⟨"SealFaces", "forget", "()I"⟩ prog_1_method_37_code 1 (some .int) ∈ ab_good := ab_mg sb_t6 38 rfl rfl
set_option maxRecDepth 20000 in
theorem q1350 : Cond.methodLink "SealFacesLaw" 166 ⟨"SealFaces", "who", "(III)I"⟩ ∈ ab_good := ab_mg sb_t6 39 rfl rfl
set_option maxRecDepth 20000 in
theorem q1351 : Cond.instanceMethod ⟨"SealFaces", "who", "(III)I"⟩ ∈ ab_good := ab_mg sb_t6 40 rfl rfl
set_option maxRecDepth 20000 in
theorem q1352 : Cond.selects "SealFaces" ⟨"SealFaces", "who", "(III)I"⟩ ⟨"SealFaces", "who", "(III)I"⟩ ∈ ab_good := ab_mg sb_t6 41 rfl rfl
set_option maxRecDepth 20000 in
theorem q1353 : Cond.code ⟨"SealFaces", "who", "(III)I"⟩ prog_1_method_38_code 4 (some .int) ∈ ab_good := ab_mg sb_t6 42 rfl rfl
set_option maxRecDepth 20000 in
theorem q1354 : Cond.methodLink "SealFaces" 307 ⟨"SealFaces$Told", "isKnown", "(I)Z"⟩ ∈ ab_good := ab_mg sb_t6 43 rfl rfl
set_option maxRecDepth 20000 in
theorem q1355 : Cond.instanceMethod ⟨"SealFaces$Told", "isKnown", "(I)Z"⟩ ∈ ab_good := ab_mg sb_t6 44 rfl rfl
set_option maxRecDepth 20000 in
theorem q1356 : Cond.selects "SealFaces$Told" ⟨"SealFaces$Told", "isKnown", "(I)Z"⟩ ⟨"SealFaces$Told", "isKnown", "(I)Z"⟩ ∈ ab_good := ab_mg sb_t6 45 rfl rfl
set_option maxRecDepth 20000 in
theorem q1357 : Cond.code ⟨"SealFaces$Told", "isKnown", "(I)Z"⟩ prog_12_method_4_code 2 (some .boolean) ∈ ab_good := ab_mg sb_t6 46 rfl rfl
set_option maxRecDepth 20000 in
theorem q1358 : Cond.methodLink "SealFaces" 310 ⟨"SealFaces", "suspects", "(II)I"⟩ ∈ ab_good := ab_mg sb_t6 47 rfl rfl
set_option maxRecDepth 20000 in
theorem q1360 : Cond.instanceMethod ⟨"SealFaces", "suspects", "(II)I"⟩ ∈ ab_good := ab_mg sb_t6 49 rfl rfl
set_option maxRecDepth 20000 in
theorem q1361 : Cond.code ⟨"SealFaces", "suspects", "(II)I"⟩ prog_1_method_43_code 5 (some .int) ∈ ab_good := ab_mg sb_t6 50 rfl rfl
set_option maxRecDepth 20000 in
theorem q1362 : Cond.methodLink "SealFaces" 358 ⟨"SealFaces$Told", "fits", "(I[I)Z"⟩ ∈ ab_good := ab_mg sb_t6 51 rfl rfl
set_option maxRecDepth 20000 in
theorem q1363 : Cond.instanceMethod ⟨"SealFaces$Told", "fits", "(I[I)Z"⟩ ∈ ab_good := ab_mg sb_t6 52 rfl rfl
set_option maxRecDepth 20000 in
theorem q1364 : Cond.selects "SealFaces$Told" ⟨"SealFaces$Told", "fits", "(I[I)Z"⟩ ⟨"SealFaces$Told", "fits", "(I[I)Z"⟩ ∈ ab_good := ab_mg sb_t6 53 rfl rfl
set_option maxRecDepth 20000 in
theorem q1365 : Cond.code ⟨"SealFaces$Told", "fits", "(I[I)Z"⟩ prog_12_method_5_code 5 (some .boolean) ∈ ab_good := ab_mg sb_t6 54 rfl rfl
set_option maxRecDepth 20000 in
theorem q1366 : Cond.methodLinkNest "SealFaces$Told" 26 ⟨"SealFaces", "at", "([II)I"⟩ "SealFaces" ∈ ab_nest := ab_mn sb_t6 55 rfl rfl
set_option maxRecDepth 20000 in
theorem q1367 : Cond.methodLink "SealFacesLaw" 170 ⟨"SealFaces", "look", "(III)I"⟩ ∈ ab_good := ab_mg sb_t6 56 rfl rfl
set_option maxRecDepth 20000 in
theorem q1368 : Cond.instanceMethod ⟨"SealFaces", "look", "(III)I"⟩ ∈ ab_good := ab_mg sb_t6 57 rfl rfl
set_option maxRecDepth 20000 in
theorem q1369 : Cond.selects "SealFaces" ⟨"SealFaces", "look", "(III)I"⟩ ⟨"SealFaces", "look", "(III)I"⟩ ∈ ab_good := ab_mg sb_t6 58 rfl rfl
set_option maxRecDepth 20000 in
theorem q1370 : Cond.code ⟨"SealFaces", "look", "(III)I"⟩ prog_1_method_39_code 9 (some .int) ∈ ab_good := ab_mg sb_t6 59 rfl rfl
set_option maxRecDepth 20000 in
theorem q1371 : Cond.methodLink "SealFaces" 318 ⟨"SealFaces", "leftAtWorst", "(IIII)I"⟩ ∈ ab_good := ab_mg sb_t6 60 rfl rfl
set_option maxRecDepth 20000 in
theorem q1373 : Cond.instanceMethod ⟨"SealFaces", "leftAtWorst", "(IIII)I"⟩ ∈ ab_good := ab_mg sb_t6 62 rfl rfl
set_option maxRecDepth 20000 in
theorem q1374 : Cond.code ⟨"SealFaces", "leftAtWorst", "(IIII)I"⟩ prog_1_method_44_code 8 (some .int) ∈ ab_good := ab_mg sb_t6 63 rfl rfl
set_option maxRecDepth 20000 in
theorem q1375 : Cond.methodLink "SealFaces" 362 ⟨"SealFaces", "hasBit", "(II)Z"⟩ ∈ ab_good := ab_mg sb_t6 64 rfl rfl
set_option maxRecDepth 20000 in
theorem q1376 : Cond.methodLink "SealFacesLaw" 174 ⟨"SealFaces", "hold", "(I)Z"⟩ ∈ ab_good := ab_mg sb_t6 65 rfl rfl
set_option maxRecDepth 20000 in
theorem q1377 : Cond.instanceMethod ⟨"SealFaces", "hold", "(I)Z"⟩ ∈ ab_good := ab_mg sb_t6 66 rfl rfl
set_option maxRecDepth 20000 in
theorem q1378 : Cond.selects "SealFaces" ⟨"SealFaces", "hold", "(I)Z"⟩ ⟨"SealFaces", "hold", "(I)Z"⟩ ∈ ab_good := ab_mg sb_t6 67 rfl rfl
set_option maxRecDepth 20000 in
theorem q1379 : Cond.code ⟨"SealFaces", "hold", "(I)Z"⟩ prog_1_method_40_code 2 (some .boolean) ∈ ab_good := ab_mg sb_t6 68 rfl rfl
set_option maxRecDepth 20000 in
theorem q1380 : Cond.methodLink "SealFaces" 322 ⟨"SealFaces$Memory", "fillSlot", "(ILSealFaces$Scene;)Z"⟩ ∈ ab_good := ab_mg sb_t6 69 rfl rfl
set_option maxRecDepth 20000 in
theorem q1381 : Cond.instanceMethod ⟨"SealFaces$Memory", "fillSlot", "(ILSealFaces$Scene;)Z"⟩ ∈ ab_good := ab_mg sb_t6 70 rfl rfl
set_option maxRecDepth 20000 in
theorem q1382 : Cond.selects "SealFaces$Memory" ⟨"SealFaces$Memory", "fillSlot", "(ILSealFaces$Scene;)Z"⟩ ⟨"SealFaces$Memory", "fillSlot", "(ILSealFaces$Scene;)Z"⟩ ∈ ab_good := ab_mg sb_t6 71 rfl rfl
set_option maxRecDepth 20000 in
theorem q1383 : Cond.code ⟨"SealFaces$Memory", "fillSlot", "(ILSealFaces$Scene;)Z"⟩ prog_5_method_5_code 3 (some .boolean) ∈ ab_good := ab_mg sb_t6 72 rfl rfl
set_option maxRecDepth 20000 in
theorem q1384 : Cond.methodLink "SealFacesLaw" 178 ⟨"SealFaces", "restore", "(I)Z"⟩ ∈ ab_good := ab_mg sb_t6 73 rfl rfl
set_option maxRecDepth 20000 in
theorem q1385 : Cond.instanceMethod ⟨"SealFaces", "restore", "(I)Z"⟩ ∈ ab_good := ab_mg sb_t6 74 rfl rfl
set_option maxRecDepth 20000 in
theorem q1386 : Cond.selects "SealFaces" ⟨"SealFaces", "restore", "(I)Z"⟩ ⟨"SealFaces", "restore", "(I)Z"⟩ ∈ ab_good := ab_mg sb_t6 75 rfl rfl
set_option maxRecDepth 20000 in
theorem q1387 : Cond.code ⟨"SealFaces", "restore", "(I)Z"⟩ prog_1_method_41_code 2 (some .boolean) ∈ ab_good := ab_mg sb_t6 76 rfl rfl
set_option maxRecDepth 20000 in
theorem q1388 : Cond.methodLink "SealFaces" 326 ⟨"SealFaces$Memory", "takeSlot", "(ILSealFaces$Scene;)Z"⟩ ∈ ab_good := ab_mg sb_t6 77 rfl rfl
set_option maxRecDepth 20000 in
theorem q1389 : Cond.instanceMethod ⟨"SealFaces$Memory", "takeSlot", "(ILSealFaces$Scene;)Z"⟩ ∈ ab_good := ab_mg sb_t6 78 rfl rfl
set_option maxRecDepth 20000 in
theorem q1390 : Cond.selects "SealFaces$Memory" ⟨"SealFaces$Memory", "takeSlot", "(ILSealFaces$Scene;)Z"⟩ ⟨"SealFaces$Memory", "takeSlot", "(ILSealFaces$Scene;)Z"⟩ ∈ ab_good := ab_mg sb_t6 79 rfl rfl
set_option maxRecDepth 20000 in
theorem q1391 : Cond.code ⟨"SealFaces$Memory", "takeSlot", "(ILSealFaces$Scene;)Z"⟩ prog_5_method_6_code 3 (some .boolean) ∈ ab_good := ab_mg sb_t6 80 rfl rfl
set_option maxRecDepth 20000 in
theorem q1392 : Cond.methodLinkNest "SealFaces$Memory" 43 ⟨"SealFaces", "hasBit", "(II)Z"⟩ "SealFaces" ∈ ab_nest := ab_mn sb_t6 81 rfl rfl
set_option maxRecDepth 20000 in
theorem q1393 : Cond.methodLink "SealFacesLaw" 182 ⟨"SealFaces", "count", "(I)I"⟩ ∈ ab_good := ab_mg sb_t6 82 rfl rfl
set_option maxRecDepth 20000 in
theorem q1394 : Cond.instanceMethod ⟨"SealFaces", "count", "(I)I"⟩ ∈ ab_good := ab_mg sb_t6 83 rfl rfl
set_option maxRecDepth 20000 in
theorem q1395 : Cond.selects "SealFaces" ⟨"SealFaces", "count", "(I)I"⟩ ⟨"SealFaces", "count", "(I)I"⟩ ∈ ab_good := ab_mg sb_t6 84 rfl rfl
set_option maxRecDepth 20000 in
theorem q1396 : Cond.code ⟨"SealFaces", "count", "(I)I"⟩ prog_1_method_42_code 2 (some .int) ∈ ab_good := ab_mg sb_t6 85 rfl rfl
set_option maxRecDepth 20000 in
theorem q1397 : Cond.methodLink "SealFaces" 329 ⟨"SealFaces$Hall", "deedsWith", "(I)I"⟩ ∈ ab_good := ab_mg sb_t6 86 rfl rfl
set_option maxRecDepth 20000 in
theorem q1398 : Cond.methodLink "SealFaces" 332 ⟨"SealFaces$Hall", "treatiesHeld", "()I"⟩ ∈ ab_good := ab_mg sb_t6 87 rfl rfl
set_option maxRecDepth 20000 in
theorem q1399 : Cond.instanceMethod ⟨"SealFaces$Hall", "treatiesHeld", "()I"⟩ ∈ ab_good := ab_mg sb_t6 88 rfl rfl
set_option maxRecDepth 20000 in
theorem q1400 : Cond.selects "SealFaces$Hall" ⟨"SealFaces$Hall", "treatiesHeld", "()I"⟩ ⟨"SealFaces$Hall", "treatiesHeld", "()I"⟩ ∈ ab_good := ab_mg sb_t6 89 rfl rfl
set_option maxRecDepth 20000 in
theorem q1401 : Cond.code ⟨"SealFaces$Hall", "treatiesHeld", "()I"⟩ prog_3_method_28_code 3 (some .int) ∈ ab_good := ab_mg sb_t6 90 rfl rfl
set_option maxRecDepth 20000 in
theorem q1402 : Cond.methodLink "SealFaces$Hall" 182 ⟨"SealFaces$Hall", "isHeld", "(I)Z"⟩ ∈ ab_good := ab_mg sb_t6 91 rfl rfl
set_option maxRecDepth 20000 in
theorem q1403 : Cond.methodLink "SealFaces" 339 ⟨"SealFaces$Memory", "slotsFull", "()I"⟩ ∈ ab_good := ab_mg sb_t6 92 rfl rfl
set_option maxRecDepth 20000 in
theorem q1404 : Cond.instanceMethod ⟨"SealFaces$Memory", "slotsFull", "()I"⟩ ∈ ab_good := ab_mg sb_t6 93 rfl rfl
set_option maxRecDepth 20000 in
theorem q1405 : Cond.selects "SealFaces$Memory" ⟨"SealFaces$Memory", "slotsFull", "()I"⟩ ⟨"SealFaces$Memory", "slotsFull", "()I"⟩ ∈ ab_good := ab_mg sb_t6 94 rfl rfl
set_option maxRecDepth 20000 in
theorem q1406 : Cond.code ⟨"SealFaces$Memory", "slotsFull", "()I"⟩ prog_5_method_7_code 1 (some .int) ∈ ab_good := ab_mg sb_t6 95 rfl rfl
set_option maxRecDepth 20000 in
theorem q1407 : Cond.methodLink "SealFaces$Memory" 47 ⟨"java/lang/Integer", "bitCount", "(I)I"⟩ ∈ ab_good := ab_mg sb_t6 96 rfl rfl
set_option maxRecDepth 20000 in
theorem q1408 : Cond.methodLink "SealFaces" 342 ⟨"SealFaces$Hall", "allLevels", "()I"⟩ ∈ ab_good := ab_mg sb_t6 97 rfl rfl
set_option maxRecDepth 20000 in
theorem q1409 : Cond.instanceMethod ⟨"SealFaces$Hall", "allLevels", "()I"⟩ ∈ ab_good := ab_mg sb_t6 98 rfl rfl
set_option maxRecDepth 20000 in
theorem q1410 : Cond.selects "SealFaces$Hall" ⟨"SealFaces$Hall", "allLevels", "()I"⟩ ⟨"SealFaces$Hall", "allLevels", "()I"⟩ ∈ ab_good := ab_mg sb_t6 99 rfl rfl
set_option maxRecDepth 20000 in
theorem q1411 : Cond.code ⟨"SealFaces$Hall", "allLevels", "()I"⟩ prog_3_method_35_code 3 (some .int) ∈ ab_good := ab_mg sb_t6 100 rfl rfl
set_option maxRecDepth 20000 in
theorem q1412 : Cond.methodLink "SealFaces$Hall" 195 ⟨"SealFaces$Hall", "levelsOf", "(I)I"⟩ ∈ ab_good := ab_mg sb_t6 101 rfl rfl
set_option maxRecDepth 20000 in
theorem q1413 : Cond.methodLink "SealFaces" 345 ⟨"SealFaces$Hall", "allPrints", "()I"⟩ ∈ ab_good := ab_mg sb_t6 102 rfl rfl
set_option maxRecDepth 20000 in
theorem q1414 : Cond.instanceMethod ⟨"SealFaces$Hall", "allPrints", "()I"⟩ ∈ ab_good := ab_mg sb_t6 103 rfl rfl
set_option maxRecDepth 20000 in
theorem q1415 : Cond.selects "SealFaces$Hall" ⟨"SealFaces$Hall", "allPrints", "()I"⟩ ⟨"SealFaces$Hall", "allPrints", "()I"⟩ ∈ ab_good := ab_mg sb_t6 104 rfl rfl
set_option maxRecDepth 20000 in
theorem q1416 : Cond.code ⟨"SealFaces$Hall", "allPrints", "()I"⟩ prog_3_method_36_code 4 (some .int) ∈ ab_good := ab_mg sb_t6 105 rfl rfl
set_option maxRecDepth 20000 in
theorem q1417 : Cond.methodLink "SealFaces" 348 ⟨"SealFaces$Hall", "stuckDeeds", "()I"⟩ ∈ ab_good := ab_mg sb_t6 106 rfl rfl
set_option maxRecDepth 20000 in
theorem q1418 : Cond.instanceMethod ⟨"SealFaces$Hall", "stuckDeeds", "()I"⟩ ∈ ab_good := ab_mg sb_t6 107 rfl rfl
set_option maxRecDepth 20000 in
theorem q1419 : Cond.selects "SealFaces$Hall" ⟨"SealFaces$Hall", "stuckDeeds", "()I"⟩ ⟨"SealFaces$Hall", "stuckDeeds", "()I"⟩ ∈ ab_good := ab_mg sb_t6 108 rfl rfl
set_option maxRecDepth 20000 in
theorem q1420 : Cond.code ⟨"SealFaces$Hall", "stuckDeeds", "()I"⟩ prog_3_method_32_code 3 (some .int) ∈ ab_good := ab_mg sb_t6 109 rfl rfl
set_option maxRecDepth 20000 in
theorem q1421 : Cond.methodLink "SealFaces$Hall" 189 ⟨"SealFaces$Hall", "clerksFor", "(I)I"⟩ ∈ ab_good := ab_mg sb_t6 110 rfl rfl
set_option maxRecDepth 20000 in
theorem q1422 : Cond.methodLink "SealFaces" 351 ⟨"SealFaces$Hall", "idleClerks", "()I"⟩ ∈ ab_good := ab_mg sb_t6 111 rfl rfl
set_option maxRecDepth 20000 in
theorem q1423 : Cond.instanceMethod ⟨"SealFaces$Hall", "idleClerks", "()I"⟩ ∈ ab_good := ab_mg sb_t6 112 rfl rfl
set_option maxRecDepth 20000 in
theorem q1424 : Cond.selects "SealFaces$Hall" ⟨"SealFaces$Hall", "idleClerks", "()I"⟩ ⟨"SealFaces$Hall", "idleClerks", "()I"⟩ ∈ ab_good := ab_mg sb_t6 113 rfl rfl
set_option maxRecDepth 20000 in
theorem q1425 : Cond.code ⟨"SealFaces$Hall", "idleClerks", "()I"⟩ prog_3_method_33_code 3 (some .int) ∈ ab_good := ab_mg sb_t6 114 rfl rfl
set_option maxRecDepth 20000 in
theorem q1426 : Cond.methodLink "SealFaces$Hall" 192 ⟨"SealFaces$Hall", "deedsFor", "(I)I"⟩ ∈ ab_good := ab_mg sb_t6 115 rfl rfl
set_option maxRecDepth 20000 in
theorem q1427 : Cond.classLink "SealFacesLaw" 10 "SealFacesModel" ∈ ab_good := ab_mg sb_t6 116 rfl rfl
set_option maxRecDepth 20000 in
theorem q1428 : Cond.instantiable "SealFacesModel" 69 ∈ ab_good := ab_mg sb_t6 117 rfl rfl
set_option maxRecDepth 20000 in
theorem q1429 : Cond.methodLink "SealFacesLaw" 12 ⟨"SealFacesModel", "<init>", "()V"⟩ ∈ ab_good := ab_mg sb_t6 118 rfl rfl
set_option maxRecDepth 20000 in
theorem q1430 : Cond.instanceMethod ⟨"SealFacesModel", "<init>", "()V"⟩ ∈ ab_good := ab_mg sb_t6 119 rfl rfl
set_option maxRecDepth 20000 in
theorem q1431 : Cond.code ⟨"SealFacesModel", "<init>", "()V"⟩ prog_14_method_2_code 1 none ∈ ab_good := ab_mg sb_t6 120 rfl rfl
set_option maxRecDepth 20000 in
theorem q1432 : Cond.methodLink "SealFacesModel" 7 ⟨"java/lang/Object", "<init>", "()V"⟩ ∈ ab_good := ab_mg sb_t6 121 rfl rfl
set_option maxRecDepth 20000 in
theorem q1433 : Cond.methodLink "SealFacesModel" 161 ⟨"SealFacesModel", "plain", "(I)V"⟩ ∈ ab_good := ab_mg sb_t6 122 rfl rfl
set_option maxRecDepth 20000 in
theorem q1435 : Cond.instanceMethod ⟨"SealFacesModel", "plain", "(I)V"⟩ ∈ ab_good := ab_mg sb_t6 124 rfl rfl
set_option maxRecDepth 20000 in
theorem q1436 : Cond.code ⟨"SealFacesModel", "plain", "(I)V"⟩ prog_14_method_19_code 3 none ∈ ab_good := ab_mg sb_t6 125 rfl rfl
set_option maxRecDepth 20000 in
theorem q1437 : Cond.methodLink "SealFacesModel" 165 ⟨"SealFacesModel", "letters", "(IIIIIII)J"⟩ ∈ ab_good := ab_mg sb_t6 126 rfl rfl
set_option maxRecDepth 20000 in
theorem q1438 : Cond.static ⟨"SealFacesModel", "letters", "(IIIIIII)J"⟩ ∈ ab_good := ab_mg sb_t6 127 rfl rfl
set_option maxRecDepth 20000 in
theorem q1439 : Cond.code ⟨"SealFacesModel", "letters", "(IIIIIII)J"⟩ prog_14_method_10_code 7 (some .long) ∈ ab_good := ab_mg sb_t6 128 rfl rfl
set_option maxRecDepth 20000 in
theorem q1440 : Cond.methodLink "SealFacesModel" 186 ⟨"SealFacesModel", "appends", "(JI)J"⟩ ∈ ab_good := ab_mg sb_t6 129 rfl rfl
set_option maxRecDepth 20000 in
theorem q1441 : Cond.static ⟨"SealFacesModel", "appends", "(JI)J"⟩ ∈ ab_good := ab_mg sb_t6 130 rfl rfl
set_option maxRecDepth 20000 in
theorem q1442 : Cond.code ⟨"SealFacesModel", "appends", "(JI)J"⟩ prog_14_method_9_code 3 (some .long) ∈ ab_good := ab_mg sb_t6 131 rfl rfl
set_option maxRecDepth 20000 in
theorem q1443 : Cond.constantLong "SealFacesModel" 184 (27) ∈ ab_good := ab_mg sb_t6 132 rfl rfl
set_option maxRecDepth 20000 in
theorem q1444 : Cond.methodLink "SealFacesModel" 169 ⟨"SealFacesModel", "begins", "()V"⟩ ∈ ab_good := ab_mg sb_t6 133 rfl rfl
set_option maxRecDepth 20000 in
theorem q1446 : Cond.instanceMethod ⟨"SealFacesModel", "begins", "()V"⟩ ∈ ab_good := ab_mg sb_t6 135 rfl rfl
set_option maxRecDepth 20000 in
theorem q1447 : Cond.code ⟨"SealFacesModel", "begins", "()V"⟩ prog_14_method_47_code 3 none ∈ ab_good := ab_mg sb_t6 136 rfl rfl
set_option maxRecDepth 20000 in
theorem q1448 : Cond.methodLink "SealFacesModel" 325 ⟨"SealFacesModel", "firstLevel", "(II)I"⟩ ∈ ab_good := ab_mg sb_t6 137 rfl rfl
set_option maxRecDepth 20000 in
theorem q1450 : Cond.instanceMethod ⟨"SealFacesModel", "firstLevel", "(II)I"⟩ ∈ ab_good := ab_mg sb_t6 139 rfl rfl
set_option maxRecDepth 20000 in
theorem q1451 : Cond.code ⟨"SealFacesModel", "firstLevel", "(II)I"⟩ prog_14_method_44_code 3 (some .int) ∈ ab_good := ab_mg sb_t6 140 rfl rfl
set_option maxRecDepth 20000 in
theorem q1452 : Cond.methodLink "SealFacesModel" 172 ⟨"SealFacesModel", "keepsRow", "()V"⟩ ∈ ab_good := ab_mg sb_t6 141 rfl rfl
set_option maxRecDepth 20000 in
theorem q1454 : Cond.instanceMethod ⟨"SealFacesModel", "keepsRow", "()V"⟩ ∈ ab_good := ab_mg sb_t6 143 rfl rfl
set_option maxRecDepth 20000 in
theorem q1455 : Cond.code ⟨"SealFacesModel", "keepsRow", "()V"⟩ prog_14_method_48_code 2 none ∈ ab_good := ab_mg sb_t6 144 rfl rfl
set_option maxRecDepth 20000 in
theorem q1456 : Cond.fieldLink "SealFacesModel" 13 "SealFacesModel" "tape" "[B" ∈ ab_good := ab_mg sb_t6 145 rfl rfl
set_option maxRecDepth 20000 in
theorem q1457 : Cond.fieldLink "SealFacesModel" 175 "SealFacesModel" "taped" "I" ∈ ab_good := ab_mg sb_t6 146 rfl rfl
set_option maxRecDepth 20000 in
theorem q1458 : Cond.fieldLink "SealFacesModel" 17 "SealFacesModel" "text" "[B" ∈ ab_good := ab_mg sb_t6 147 rfl rfl
set_option maxRecDepth 20000 in
theorem q1459 : Cond.fieldLink "SealFacesModel" 181 "SealFacesModel" "size" "I" ∈ ab_good := ab_mg sb_t6 148 rfl rfl
set_option maxRecDepth 20000 in
theorem q1460 : Cond.fieldLink "SealFacesModel" 20 "SealFacesModel" "tKind" "[I" ∈ ab_good := ab_mg sb_t6 149 rfl rfl
set_option maxRecDepth 20000 in
theorem q1461 : Cond.fieldLink "SealFacesModel" 24 "SealFacesModel" "tPlace" "[I" ∈ ab_good := ab_mg sb_t6 150 rfl rfl
set_option maxRecDepth 20000 in
theorem q1462 : Cond.fieldLink "SealFacesModel" 27 "SealFacesModel" "tValue" "[I" ∈ ab_good := ab_mg sb_t6 151 rfl rfl
set_option maxRecDepth 20000 in
theorem q1463 : Cond.fieldLink "SealFacesModel" 30 "SealFacesModel" "tName" "[J" ∈ ab_good := ab_mg sb_t6 152 rfl rfl
set_option maxRecDepth 20000 in
theorem q1464 : Cond.fieldLink "SealFacesModel" 34 "SealFacesModel" "keys" "[J" ∈ ab_good := ab_mg sb_t6 153 rfl rfl
set_option maxRecDepth 20000 in
theorem q1465 : Cond.fieldLink "SealFacesModel" 190 "SealFacesModel" "tokens" "I" ∈ ab_good := ab_mg sb_t6 154 rfl rfl
set_option maxRecDepth 20000 in
theorem q1466 : Cond.fieldLink "SealFacesModel" 215 "SealFacesModel" "t" "I" ∈ ab_good := ab_mg sb_t6 155 rfl rfl
set_option maxRecDepth 20000 in
theorem q1467 : Cond.fieldLink "SealFacesModel" 239 "SealFacesModel" "open" "I" ∈ ab_good := ab_mg sb_t6 156 rfl rfl
set_option maxRecDepth 20000 in
theorem q1468 : Cond.fieldLink "SealFacesModel" 212 "SealFacesModel" "fault" "I" ∈ ab_good := ab_mg sb_t6 157 rfl rfl
set_option maxRecDepth 20000 in
theorem q1469 : Cond.fieldLink "SealFacesModel" 218 "SealFacesModel" "faultPlace" "I" ∈ ab_good := ab_mg sb_t6 158 rfl rfl
set_option maxRecDepth 20000 in
theorem q1470 : Cond.fieldLink "SealFacesModel" 221 "SealFacesModel" "worst" "I" ∈ ab_good := ab_mg sb_t6 159 rfl rfl
set_option maxRecDepth 20000 in
theorem q1471 : Cond.fieldLink "SealFacesModel" 224 "SealFacesModel" "worstPlace" "I" ∈ ab_good := ab_mg sb_t6 160 rfl rfl
set_option maxRecDepth 20000 in
theorem q1472 : Cond.fieldLink "SealFacesModel" 37 "SealFacesModel" "place" "I" ∈ ab_good := ab_mg sb_t6 161 rfl rfl
set_option maxRecDepth 20000 in
theorem q1473 : Cond.fieldLink "SealFacesModel" 242 "SealFacesModel" "live" "I" ∈ ab_good := ab_mg sb_t6 162 rfl rfl
set_option maxRecDepth 20000 in
theorem q1474 : Cond.fieldLink "SealFacesModel" 245 "SealFacesModel" "side" "I" ∈ ab_good := ab_mg sb_t6 163 rfl rfl
set_option maxRecDepth 20000 in
theorem q1475 : Cond.fieldLink "SealFacesModel" 248 "SealFacesModel" "names" "I" ∈ ab_good := ab_mg sb_t6 164 rfl rfl
set_option maxRecDepth 20000 in
theorem q1476 : Cond.fieldLink "SealFacesModel" 40 "SealFacesModel" "nameOf" "[J" ∈ ab_good := ab_mg sb_t6 165 rfl rfl
set_option maxRecDepth 20000 in
theorem q1477 : Cond.fieldLink "SealFacesModel" 43 "SealFacesModel" "nameAt" "[I" ∈ ab_good := ab_mg sb_t6 166 rfl rfl
set_option maxRecDepth 20000 in
theorem q1478 : Cond.fieldLink "SealFacesModel" 46 "SealFacesModel" "clerks" "[I" ∈ ab_good := ab_mg sb_t6 167 rfl rfl
set_option maxRecDepth 20000 in
theorem q1479 : Cond.fieldLink "SealFacesModel" 49 "SealFacesModel" "ageOf" "[I" ∈ ab_good := ab_mg sb_t6 168 rfl rfl
set_option maxRecDepth 20000 in
theorem q1480 : Cond.fieldLink "SealFacesModel" 52 "SealFacesModel" "faceOf" "[I" ∈ ab_good := ab_mg sb_t6 169 rfl rfl
set_option maxRecDepth 20000 in
theorem q1481 : Cond.fieldLink "SealFacesModel" 55 "SealFacesModel" "deeds" "[I" ∈ ab_good := ab_mg sb_t6 170 rfl rfl
set_option maxRecDepth 20000 in
theorem q1482 : Cond.fieldLink "SealFacesModel" 58 "SealFacesModel" "worthOf" "[I" ∈ ab_good := ab_mg sb_t6 171 rfl rfl
set_option maxRecDepth 20000 in
theorem q1483 : Cond.fieldLink "SealFacesModel" 61 "SealFacesModel" "needOf" "[I" ∈ ab_good := ab_mg sb_t6 172 rfl rfl
set_option maxRecDepth 20000 in
theorem q1484 : Cond.fieldLink "SealFacesModel" 64 "SealFacesModel" "treaties" "[I" ∈ ab_good := ab_mg sb_t6 173 rfl rfl
set_option maxRecDepth 20000 in
theorem q1485 : Cond.fieldLink "SealFacesModel" 67 "SealFacesModel" "oneOf" "[I" ∈ ab_good := ab_mg sb_t6 174 rfl rfl
set_option maxRecDepth 20000 in
theorem q1486 : Cond.fieldLink "SealFacesModel" 70 "SealFacesModel" "otherOf" "[I" ∈ ab_good := ab_mg sb_t6 175 rfl rfl
set_option maxRecDepth 20000 in
theorem q1487 : Cond.fieldLink "SealFacesModel" 73 "SealFacesModel" "slips" "[I" ∈ ab_good := ab_mg sb_t6 176 rfl rfl
set_option maxRecDepth 20000 in
theorem q1488 : Cond.fieldLink "SealFacesModel" 76 "SealFacesModel" "seed" "[I" ∈ ab_good := ab_mg sb_t6 177 rfl rfl
set_option maxRecDepth 20000 in
theorem q1489 : Cond.fieldLink "SealFacesModel" 79 "SealFacesModel" "lawFirst" "[I" ∈ ab_good := ab_mg sb_t6 178 rfl rfl
set_option maxRecDepth 20000 in
theorem q1490 : Cond.fieldLink "SealFacesModel" 82 "SealFacesModel" "lawLast" "[I" ∈ ab_good := ab_mg sb_t6 179 rfl rfl
set_option maxRecDepth 20000 in
theorem q1491 : Cond.fieldLink "SealFacesModel" 251 "SealFacesModel" "branches" "I" ∈ ab_good := ab_mg sb_t6 180 rfl rfl
set_option maxRecDepth 20000 in
theorem q1492 : Cond.fieldLink "SealFacesModel" 85 "SealFacesModel" "hasTest" "[Z" ∈ ab_good := ab_mg sb_t6 181 rfl rfl
set_option maxRecDepth 20000 in
theorem q1493 : Cond.fieldLink "SealFacesModel" 89 "SealFacesModel" "testFrom" "[I" ∈ ab_good := ab_mg sb_t6 182 rfl rfl
set_option maxRecDepth 20000 in
theorem q1494 : Cond.fieldLink "SealFacesModel" 92 "SealFacesModel" "testMid" "[I" ∈ ab_good := ab_mg sb_t6 183 rfl rfl
set_option maxRecDepth 20000 in
theorem q1495 : Cond.fieldLink "SealFacesModel" 95 "SealFacesModel" "testTo" "[I" ∈ ab_good := ab_mg sb_t6 184 rfl rfl
set_option maxRecDepth 20000 in
theorem q1496 : Cond.fieldLink "SealFacesModel" 98 "SealFacesModel" "termTo" "[I" ∈ ab_good := ab_mg sb_t6 185 rfl rfl
set_option maxRecDepth 20000 in
theorem q1497 : Cond.fieldLink "SealFacesModel" 254 "SealFacesModel" "codes" "I" ∈ ab_good := ab_mg sb_t6 186 rfl rfl
set_option maxRecDepth 20000 in
theorem q1498 : Cond.fieldLink "SealFacesModel" 101 "SealFacesModel" "code" "[I" ∈ ab_good := ab_mg sb_t6 187 rfl rfl
set_option maxRecDepth 20000 in
theorem q1499 : Cond.fieldLink "SealFacesModel" 104 "SealFacesModel" "codeInt" "[I" ∈ ab_good := ab_mg sb_t6 188 rfl rfl
set_option maxRecDepth 20000 in
theorem q1500 : Cond.fieldLink "SealFacesModel" 107 "SealFacesModel" "waits" "[I" ∈ ab_good := ab_mg sb_t6 189 rfl rfl
set_option maxRecDepth 20000 in
theorem q1501 : Cond.fieldLink "SealFacesModel" 304 "SealFacesModel" "waiting" "I" ∈ ab_good := ab_mg sb_t6 190 rfl rfl
set_option maxRecDepth 20000 in
theorem q1502 : Cond.fieldLink "SealFacesModel" 110 "SealFacesModel" "variables" "[I" ∈ ab_good := ab_mg sb_t6 191 rfl rfl
set_option maxRecDepth 20000 in
theorem q1503 : Cond.fieldLink "SealFacesModel" 113 "SealFacesModel" "pile" "[I" ∈ ab_good := ab_mg sb_t6 192 rfl rfl
set_option maxRecDepth 20000 in
theorem q1504 : Cond.fieldLink "SealFacesModel" 317 "SealFacesModel" "isBroken" "Z" ∈ ab_good := ab_mg sb_t6 193 rfl rfl
set_option maxRecDepth 20000 in
theorem q1505 : Cond.fieldLink "SealFacesModel" 116 "SealFacesModel" "now" "[I" ∈ ab_good := ab_mg sb_t6 194 rfl rfl
set_option maxRecDepth 20000 in
theorem q1506 : Cond.fieldLink "SealFacesModel" 119 "SealFacesModel" "row" "[I" ∈ ab_good := ab_mg sb_t6 195 rfl rfl
set_option maxRecDepth 20000 in
theorem q1507 : Cond.fieldLink "SealFacesModel" 329 "SealFacesModel" "lots" "I" ∈ ab_good := ab_mg sb_t6 196 rfl rfl
set_option maxRecDepth 20000 in
theorem q1508 : Cond.fieldLink "SealFacesModel" 122 "SealFacesModel" "takesNow" "[I" ∈ ab_good := ab_mg sb_t6 197 rfl rfl
set_option maxRecDepth 20000 in
theorem q1509 : Cond.fieldLink "SealFacesModel" 125 "SealFacesModel" "growsNow" "[I" ∈ ab_good := ab_mg sb_t6 198 rfl rfl
set_option maxRecDepth 20000 in
theorem q1510 : Cond.fieldLink "SealFacesModel" 128 "SealFacesModel" "fadesNow" "[I" ∈ ab_good := ab_mg sb_t6 199 rfl rfl
set_option maxRecDepth 20000 in
theorem q1511 : Cond.fieldLink "SealFacesModel" 260 "SealFacesModel" "undos" "I" ∈ ab_good := ab_mg sb_t6 200 rfl rfl
set_option maxRecDepth 20000 in
theorem q1512 : Cond.fieldLink "SealFacesModel" 131 "SealFacesModel" "history" "[I" ∈ ab_good := ab_mg sb_t6 201 rfl rfl
set_option maxRecDepth 20000 in
theorem q1513 : Cond.fieldLink "SealFacesModel" 134 "SealFacesModel" "openDeeds" "[I" ∈ ab_good := ab_mg sb_t6 202 rfl rfl
set_option maxRecDepth 20000 in
theorem q1514 : Cond.fieldLink "SealFacesModel" 421 "SealFacesModel" "openMany" "I" ∈ ab_good := ab_mg sb_t6 203 rfl rfl
set_option maxRecDepth 20000 in
theorem q1515 : Cond.fieldLink "SealFacesModel" 137 "SealFacesModel" "bestBy" "[I" ∈ ab_good := ab_mg sb_t6 204 rfl rfl
set_option maxRecDepth 20000 in
theorem q1516 : Cond.fieldLink "SealFacesModel" 140 "SealFacesModel" "matchFrom" "[I" ∈ ab_good := ab_mg sb_t6 205 rfl rfl
set_option maxRecDepth 20000 in
theorem q1517 : Cond.fieldLink "SealFacesModel" 143 "SealFacesModel" "gameBy" "[I" ∈ ab_good := ab_mg sb_t6 206 rfl rfl
set_option maxRecDepth 20000 in
theorem q1518 : Cond.fieldLink "SealFacesModel" 263 "SealFacesModel" "tolds" "I" ∈ ab_good := ab_mg sb_t6 207 rfl rfl
set_option maxRecDepth 20000 in
theorem q1519 : Cond.fieldLink "SealFacesModel" 146 "SealFacesModel" "toldFeature" "[I" ∈ ab_good := ab_mg sb_t6 208 rfl rfl
set_option maxRecDepth 20000 in
theorem q1520 : Cond.fieldLink "SealFacesModel" 149 "SealFacesModel" "toldBy" "[I" ∈ ab_good := ab_mg sb_t6 209 rfl rfl
set_option maxRecDepth 20000 in
theorem q1521 : Cond.fieldLink "SealFacesModel" 152 "SealFacesModel" "toldSo" "[Z" ∈ ab_good := ab_mg sb_t6 210 rfl rfl
set_option maxRecDepth 20000 in
theorem q1522 : Cond.fieldLink "SealFacesModel" 155 "SealFacesModel" "isHeld" "[Z" ∈ ab_good := ab_mg sb_t6 211 rfl rfl
set_option maxRecDepth 20000 in
theorem q1523 : Cond.fieldLink "SealFacesModel" 158 "SealFacesModel" "heldRows" "[I" ∈ ab_good := ab_mg sb_t6 212 rfl rfl
set_option maxRecDepth 20000 in
theorem q1663 : Cond.methodLink "SealFacesLaw" 17 ⟨"SealFacesModel", "feed", "(IIIII)I"⟩ ∈ ab_good := ab_mg sb_t7 112 rfl rfl
set_option maxRecDepth 20000 in
theorem q1664 : Cond.instanceMethod ⟨"SealFacesModel", "feed", "(IIIII)I"⟩ ∈ ab_good := ab_mg sb_t7 113 rfl rfl
set_option maxRecDepth 20000 in
theorem q1665 : Cond.selects "SealFacesModel" ⟨"SealFacesModel", "feed", "(IIIII)I"⟩ ⟨"SealFacesModel", "feed", "(IIIII)I"⟩ ∈ ab_good := ab_mg sb_t7 114 rfl rfl
set_option maxRecDepth 20000 in
theorem q1666 : Cond.code ⟨"SealFacesModel", "feed", "(IIIII)I"⟩ prog_14_method_3_code 6 (some .int) ∈ ab_good := ab_mg sb_t7 115 rfl rfl
set_option maxRecDepth 20000 in
theorem q1667 : Cond.methodLink "SealFacesModel" 178 ⟨"SealFacesModel", "lays", "(I)V"⟩ ∈ ab_good := ab_mg sb_t7 116 rfl rfl
set_option maxRecDepth 20000 in
theorem q1669 : Cond.instanceMethod ⟨"SealFacesModel", "lays", "(I)V"⟩ ∈ ab_good := ab_mg sb_t7 118 rfl rfl
set_option maxRecDepth 20000 in
theorem q1670 : Cond.code ⟨"SealFacesModel", "lays", "(I)V"⟩ prog_14_method_4_code 3 none ∈ ab_good := ab_mg sb_t7 119 rfl rfl
set_option maxRecDepth 20000 in
theorem q1671 : Cond.methodLink "SealFacesLaw" 22 ⟨"SealFacesModel", "back", "(I)I"⟩ ∈ ab_good := ab_mg sb_t7 120 rfl rfl
set_option maxRecDepth 20000 in
theorem q1672 : Cond.instanceMethod ⟨"SealFacesModel", "back", "(I)I"⟩ ∈ ab_good := ab_mg sb_t7 121 rfl rfl
set_option maxRecDepth 20000 in
theorem q1673 : Cond.selects "SealFacesModel" ⟨"SealFacesModel", "back", "(I)I"⟩ ⟨"SealFacesModel", "back", "(I)I"⟩ ∈ ab_good := ab_mg sb_t7 122 rfl rfl
set_option maxRecDepth 20000 in
theorem q1674 : Cond.code ⟨"SealFacesModel", "back", "(I)I"⟩ prog_14_method_5_code 2 (some .int) ∈ ab_good := ab_mg sb_t7 123 rfl rfl
set_option maxRecDepth 20000 in
theorem q1675 : Cond.methodLink "SealFacesLaw" 27 ⟨"SealFacesModel", "read", "()I"⟩ ∈ ab_good := ab_mg sb_t7 124 rfl rfl
set_option maxRecDepth 20000 in
theorem q1676 : Cond.instanceMethod ⟨"SealFacesModel", "read", "()I"⟩ ∈ ab_good := ab_mg sb_t7 125 rfl rfl
set_option maxRecDepth 20000 in
theorem q1677 : Cond.selects "SealFacesModel" ⟨"SealFacesModel", "read", "()I"⟩ ⟨"SealFacesModel", "read", "()I"⟩ ∈ ab_good := ab_mg sb_t7 126 rfl rfl
set_option maxRecDepth 20000 in
theorem q1678 : Cond.code ⟨"SealFacesModel", "read", "()I"⟩ prog_14_method_20_code 2 (some .int) ∈ ab_good := ab_mg sb_t7 127 rfl rfl
set_option maxRecDepth 20000 in
theorem q1679 : Cond.methodLink "SealFacesModel" 236 ⟨"SealFacesModel", "cut", "()V"⟩ ∈ ab_good := ab_mg sb_t7 128 rfl rfl
set_option maxRecDepth 20000 in
theorem q1681 : Cond.instanceMethod ⟨"SealFacesModel", "cut", "()V"⟩ ∈ ab_good := ab_mg sb_t7 130 rfl rfl
set_option maxRecDepth 20000 in
theorem q1682 : Cond.code ⟨"SealFacesModel", "cut", "()V"⟩ prog_14_method_12_code 8 none ∈ ab_good := ab_mg sb_t7 131 rfl rfl
set_option maxRecDepth 20000 in
theorem q1683 : Cond.methodLink "SealFacesModel" 193 ⟨"SealFacesModel", "byteAt", "(I)I"⟩ ∈ ab_good := ab_mg sb_t7 132 rfl rfl
set_option maxRecDepth 20000 in
theorem q1685 : Cond.instanceMethod ⟨"SealFacesModel", "byteAt", "(I)I"⟩ ∈ ab_good := ab_mg sb_t7 134 rfl rfl
set_option maxRecDepth 20000 in
theorem q1686 : Cond.code ⟨"SealFacesModel", "byteAt", "(I)I"⟩ prog_14_method_6_code 2 (some .int) ∈ ab_good := ab_mg sb_t7 135 rfl rfl
set_option maxRecDepth 20000 in
theorem q1687 : Cond.methodLink "SealFacesModel" 197 ⟨"SealFacesModel", "token", "(IIIJ)V"⟩ ∈ ab_good := ab_mg sb_t7 136 rfl rfl
set_option maxRecDepth 20000 in
theorem q1689 : Cond.instanceMethod ⟨"SealFacesModel", "token", "(IIIJ)V"⟩ ∈ ab_good := ab_mg sb_t7 138 rfl rfl
set_option maxRecDepth 20000 in
theorem q1690 : Cond.code ⟨"SealFacesModel", "token", "(IIIJ)V"⟩ prog_14_method_11_code 6 none ∈ ab_good := ab_mg sb_t7 139 rfl rfl
set_option maxRecDepth 20000 in
theorem q1691 : Cond.methodLink "SealFacesModel" 201 ⟨"SealFacesModel", "isLetter", "(I)Z"⟩ ∈ ab_good := ab_mg sb_t7 140 rfl rfl
set_option maxRecDepth 20000 in
theorem q1692 : Cond.static ⟨"SealFacesModel", "isLetter", "(I)Z"⟩ ∈ ab_good := ab_mg sb_t7 141 rfl rfl
set_option maxRecDepth 20000 in
theorem q1693 : Cond.code ⟨"SealFacesModel", "isLetter", "(I)Z"⟩ prog_14_method_8_code 1 (some .boolean) ∈ ab_good := ab_mg sb_t7 142 rfl rfl
set_option maxRecDepth 20000 in
theorem q1694 : Cond.methodLink "SealFacesModel" 205 ⟨"SealFacesModel", "isDigit", "(I)Z"⟩ ∈ ab_good := ab_mg sb_t7 143 rfl rfl
set_option maxRecDepth 20000 in
theorem q1695 : Cond.static ⟨"SealFacesModel", "isDigit", "(I)Z"⟩ ∈ ab_good := ab_mg sb_t7 144 rfl rfl
set_option maxRecDepth 20000 in
theorem q1696 : Cond.code ⟨"SealFacesModel", "isDigit", "(I)Z"⟩ prog_14_method_7_code 1 (some .boolean) ∈ ab_good := ab_mg sb_t7 145 rfl rfl
set_option maxRecDepth 20000 in
theorem q1697 : Cond.methodLink "SealFacesModel" 208 ⟨"SealFacesModel", "sign", "(III)I"⟩ ∈ ab_good := ab_mg sb_t7 146 rfl rfl
set_option maxRecDepth 20000 in
theorem q1699 : Cond.instanceMethod ⟨"SealFacesModel", "sign", "(III)I"⟩ ∈ ab_good := ab_mg sb_t7 148 rfl rfl
set_option maxRecDepth 20000 in
theorem q1700 : Cond.code ⟨"SealFacesModel", "sign", "(III)I"⟩ prog_14_method_13_code 5 (some .int) ∈ ab_good := ab_mg sb_t7 149 rfl rfl
set_option maxRecDepth 20000 in
theorem q1701 : Cond.methodLink "SealFacesModel" 230 ⟨"SealFacesModel", "is", "(I)Z"⟩ ∈ ab_good := ab_mg sb_t7 150 rfl rfl
set_option maxRecDepth 20000 in
theorem q1703 : Cond.instanceMethod ⟨"SealFacesModel", "is", "(I)Z"⟩ ∈ ab_good := ab_mg sb_t7 152 rfl rfl
set_option maxRecDepth 20000 in
theorem q1704 : Cond.code ⟨"SealFacesModel", "is", "(I)Z"⟩ prog_14_method_14_code 2 (some .boolean) ∈ ab_good := ab_mg sb_t7 153 rfl rfl
set_option maxRecDepth 20000 in
theorem q1705 : Cond.methodLink "SealFacesModel" 257 ⟨"SealFacesModel", "tellOne", "()V"⟩ ∈ ab_good := ab_mg sb_t7 154 rfl rfl
set_option maxRecDepth 20000 in
theorem q1707 : Cond.instanceMethod ⟨"SealFacesModel", "tellOne", "()V"⟩ ∈ ab_good := ab_mg sb_t7 156 rfl rfl
set_option maxRecDepth 20000 in
theorem q1708 : Cond.code ⟨"SealFacesModel", "tellOne", "()V"⟩ prog_14_method_24_code 4 none ∈ ab_good := ab_mg sb_t7 157 rfl rfl
set_option maxRecDepth 20000 in
theorem q1709 : Cond.methodLink "SealFacesModel" 272 ⟨"SealFacesModel", "roomFor", "(II)V"⟩ ∈ ab_good := ab_mg sb_t7 158 rfl rfl
set_option maxRecDepth 20000 in
theorem q1711 : Cond.instanceMethod ⟨"SealFacesModel", "roomFor", "(II)V"⟩ ∈ ab_good := ab_mg sb_t7 160 rfl rfl
set_option maxRecDepth 20000 in
theorem q1712 : Cond.code ⟨"SealFacesModel", "roomFor", "(II)V"⟩ prog_14_method_22_code 3 none ∈ ab_good := ab_mg sb_t7 161 rfl rfl
set_option maxRecDepth 20000 in
theorem q1713 : Cond.methodLink "SealFacesModel" 227 ⟨"SealFacesModel", "fail", "(I)V"⟩ ∈ ab_good := ab_mg sb_t7 162 rfl rfl
set_option maxRecDepth 20000 in
theorem q1715 : Cond.instanceMethod ⟨"SealFacesModel", "fail", "(I)V"⟩ ∈ ab_good := ab_mg sb_t7 164 rfl rfl
set_option maxRecDepth 20000 in
theorem q1716 : Cond.code ⟨"SealFacesModel", "fail", "(I)V"⟩ prog_14_method_15_code 2 none ∈ ab_good := ab_mg sb_t7 165 rfl rfl
set_option maxRecDepth 20000 in
theorem q1717 : Cond.methodLink "SealFacesModel" 233 ⟨"SealFacesModel", "goesOn", "()V"⟩ ∈ ab_good := ab_mg sb_t7 166 rfl rfl
set_option maxRecDepth 20000 in
theorem q1719 : Cond.instanceMethod ⟨"SealFacesModel", "goesOn", "()V"⟩ ∈ ab_good := ab_mg sb_t7 168 rfl rfl
set_option maxRecDepth 20000 in
theorem q1720 : Cond.code ⟨"SealFacesModel", "goesOn", "()V"⟩ prog_14_method_17_code 1 none ∈ ab_good := ab_mg sb_t7 169 rfl rfl
set_option maxRecDepth 20000 in
theorem q1721 : Cond.methodLink "SealFacesModel" 276 ⟨"SealFacesModel", "named", "()I"⟩ ∈ ab_good := ab_mg sb_t7 170 rfl rfl
set_option maxRecDepth 20000 in
theorem q1723 : Cond.instanceMethod ⟨"SealFacesModel", "named", "()I"⟩ ∈ ab_good := ab_mg sb_t7 172 rfl rfl
set_option maxRecDepth 20000 in
theorem q1724 : Cond.code ⟨"SealFacesModel", "named", "()I"⟩ prog_14_method_25_code 3 (some .int) ∈ ab_good := ab_mg sb_t7 173 rfl rfl
set_option maxRecDepth 20000 in
theorem q1725 : Cond.methodLink "SealFacesModel" 269 ⟨"SealFacesModel", "must", "(I)V"⟩ ∈ ab_good := ab_mg sb_t7 174 rfl rfl
set_option maxRecDepth 20000 in
theorem q1727 : Cond.instanceMethod ⟨"SealFacesModel", "must", "(I)V"⟩ ∈ ab_good := ab_mg sb_t7 176 rfl rfl
set_option maxRecDepth 20000 in
theorem q1728 : Cond.code ⟨"SealFacesModel", "must", "(I)V"⟩ prog_14_method_18_code 2 none ∈ ab_good := ab_mg sb_t7 177 rfl rfl
set_option maxRecDepth 20000 in
theorem q1729 : Cond.methodLink "SealFacesModel" 292 ⟨"SealFacesModel", "wrong", "(II)V"⟩ ∈ ab_good := ab_mg sb_t7 178 rfl rfl
set_option maxRecDepth 20000 in
theorem q1731 : Cond.instanceMethod ⟨"SealFacesModel", "wrong", "(II)V"⟩ ∈ ab_good := ab_mg sb_t7 180 rfl rfl
set_option maxRecDepth 20000 in
theorem q1732 : Cond.code ⟨"SealFacesModel", "wrong", "(II)V"⟩ prog_14_method_16_code 4 none ∈ ab_good := ab_mg sb_t7 181 rfl rfl
set_option maxRecDepth 20000 in
theorem q1733 : Cond.methodLink "SealFacesModel" 266 ⟨"SealFacesModel", "bounded", "(I)I"⟩ ∈ ab_good := ab_mg sb_t7 182 rfl rfl
set_option maxRecDepth 20000 in
theorem q1735 : Cond.instanceMethod ⟨"SealFacesModel", "bounded", "(I)I"⟩ ∈ ab_good := ab_mg sb_t7 184 rfl rfl
set_option maxRecDepth 20000 in
theorem q1736 : Cond.code ⟨"SealFacesModel", "bounded", "(I)I"⟩ prog_14_method_28_code 3 (some .int) ∈ ab_good := ab_mg sb_t7 185 rfl rfl
set_option maxRecDepth 20000 in
theorem q1737 : Cond.methodLink "SealFacesModel" 280 ⟨"SealFacesModel", "endsName", "(II)V"⟩ ∈ ab_good := ab_mg sb_t7 186 rfl rfl
set_option maxRecDepth 20000 in
theorem q1739 : Cond.instanceMethod ⟨"SealFacesModel", "endsName", "(II)V"⟩ ∈ ab_good := ab_mg sb_t7 188 rfl rfl
set_option maxRecDepth 20000 in
theorem q1740 : Cond.code ⟨"SealFacesModel", "endsName", "(II)V"⟩ prog_14_method_26_code 3 none ∈ ab_good := ab_mg sb_t7 189 rfl rfl
set_option maxRecDepth 20000 in
theorem q1741 : Cond.methodLink "SealFacesModel" 283 ⟨"SealFacesModel", "tellTreaty", "()V"⟩ ∈ ab_good := ab_mg sb_t7 190 rfl rfl
set_option maxRecDepth 20000 in
theorem q1743 : Cond.instanceMethod ⟨"SealFacesModel", "tellTreaty", "()V"⟩ ∈ ab_good := ab_mg sb_t7 192 rfl rfl
set_option maxRecDepth 20000 in
theorem q1744 : Cond.code ⟨"SealFacesModel", "tellTreaty", "()V"⟩ prog_14_method_29_code 3 none ∈ ab_good := ab_mg sb_t7 193 rfl rfl
set_option maxRecDepth 20000 in
theorem q1745 : Cond.methodLink "SealFacesModel" 295 ⟨"SealFacesModel", "known", "()I"⟩ ∈ ab_good := ab_mg sb_t7 194 rfl rfl
set_option maxRecDepth 20000 in
theorem q1747 : Cond.instanceMethod ⟨"SealFacesModel", "known", "()I"⟩ ∈ ab_good := ab_mg sb_t7 196 rfl rfl
set_option maxRecDepth 20000 in
theorem q1748 : Cond.code ⟨"SealFacesModel", "known", "()I"⟩ prog_14_method_27_code 3 (some .int) ∈ ab_good := ab_mg sb_t7 197 rfl rfl
set_option maxRecDepth 20000 in
theorem q1749 : Cond.methodLink "SealFacesModel" 286 ⟨"SealFacesModel", "toldInt", "(I)I"⟩ ∈ ab_good := ab_mg sb_t7 198 rfl rfl
set_option maxRecDepth 20000 in
theorem q1751 : Cond.instanceMethod ⟨"SealFacesModel", "toldInt", "(I)I"⟩ ∈ ab_good := ab_mg sb_t7 200 rfl rfl
set_option maxRecDepth 20000 in
theorem q1752 : Cond.code ⟨"SealFacesModel", "toldInt", "(I)I"⟩ prog_14_method_23_code 3 (some .int) ∈ ab_good := ab_mg sb_t7 201 rfl rfl
set_option maxRecDepth 20000 in
theorem q1753 : Cond.methodLink "SealFacesModel" 289 ⟨"SealFacesModel", "tellLaw", "(I)V"⟩ ∈ ab_good := ab_mg sb_t7 202 rfl rfl
set_option maxRecDepth 20000 in
theorem q1755 : Cond.instanceMethod ⟨"SealFacesModel", "tellLaw", "(I)V"⟩ ∈ ab_good := ab_mg sb_t7 204 rfl rfl
set_option maxRecDepth 20000 in
theorem q1756 : Cond.code ⟨"SealFacesModel", "tellLaw", "(I)V"⟩ prog_14_method_30_code 4 none ∈ ab_good := ab_mg sb_t7 205 rfl rfl
set_option maxRecDepth 20000 in
theorem q1757 : Cond.methodLink "SealFacesModel" 298 ⟨"SealFacesModel", "expression", "()V"⟩ ∈ ab_good := ab_mg sb_t7 206 rfl rfl
set_option maxRecDepth 20000 in
theorem q1759 : Cond.instanceMethod ⟨"SealFacesModel", "expression", "()V"⟩ ∈ ab_good := ab_mg sb_t7 208 rfl rfl
set_option maxRecDepth 20000 in
theorem q1760 : Cond.code ⟨"SealFacesModel", "expression", "()V"⟩ prog_14_method_34_code 3 none ∈ ab_good := ab_mg sb_t7 209 rfl rfl
set_option maxRecDepth 20000 in
theorem q1761 : Cond.methodLink "SealFacesModel" 310 ⟨"SealFacesModel", "unit", "()V"⟩ ∈ ab_good := ab_mg sb_t7 210 rfl rfl
set_option maxRecDepth 20000 in
theorem q1763 : Cond.instanceMethod ⟨"SealFacesModel", "unit", "()V"⟩ ∈ ab_good := ab_mg sb_t7 212 rfl rfl
set_option maxRecDepth 20000 in
theorem q1764 : Cond.code ⟨"SealFacesModel", "unit", "()V"⟩ prog_14_method_35_code 1 none ∈ ab_good := ab_mg sb_t7 213 rfl rfl
set_option maxRecDepth 20000 in
theorem q1765 : Cond.methodLink "SealFacesModel" 307 ⟨"SealFacesModel", "emit", "(II)V"⟩ ∈ ab_good := ab_mg sb_t7 214 rfl rfl
set_option maxRecDepth 20000 in
theorem q1767 : Cond.instanceMethod ⟨"SealFacesModel", "emit", "(II)V"⟩ ∈ ab_good := ab_mg sb_t7 216 rfl rfl
set_option maxRecDepth 20000 in
theorem q1768 : Cond.code ⟨"SealFacesModel", "emit", "(II)V"⟩ prog_14_method_32_code 3 none ∈ ab_good := ab_mg sb_t7 217 rfl rfl
set_option maxRecDepth 20000 in
theorem q1769 : Cond.methodLink "SealFacesModel" 313 ⟨"SealFacesModel", "comesOut", "(Z)V"⟩ ∈ ab_good := ab_mg sb_t7 218 rfl rfl
set_option maxRecDepth 20000 in
theorem q1771 : Cond.instanceMethod ⟨"SealFacesModel", "comesOut", "(Z)V"⟩ ∈ ab_good := ab_mg sb_t7 220 rfl rfl
set_option maxRecDepth 20000 in
theorem q1772 : Cond.code ⟨"SealFacesModel", "comesOut", "(Z)V"⟩ prog_14_method_33_code 3 none ∈ ab_good := ab_mg sb_t7 221 rfl rfl
set_option maxRecDepth 20000 in
theorem q1773 : Cond.methodLink "SealFacesModel" 301 ⟨"SealFacesModel", "term", "()V"⟩ ∈ ab_good := ab_mg sb_t7 222 rfl rfl
set_option maxRecDepth 20000 in
theorem q1775 : Cond.instanceMethod ⟨"SealFacesModel", "term", "()V"⟩ ∈ ab_good := ab_mg sb_t7 224 rfl rfl
set_option maxRecDepth 20000 in
theorem q1776 : Cond.code ⟨"SealFacesModel", "term", "()V"⟩ prog_14_method_31_code 1 none ∈ ab_good := ab_mg sb_t7 225 rfl rfl
set_option maxRecDepth 20000 in
theorem q1777 : Cond.methodLink "SealFacesLaw" 31 ⟨"SealFacesModel", "place", "()I"⟩ ∈ ab_good := ab_mg sb_t7 226 rfl rfl
set_option maxRecDepth 20000 in
theorem q1778 : Cond.instanceMethod ⟨"SealFacesModel", "place", "()I"⟩ ∈ ab_good := ab_mg sb_t7 227 rfl rfl
set_option maxRecDepth 20000 in
theorem q1779 : Cond.selects "SealFacesModel" ⟨"SealFacesModel", "place", "()I"⟩ ⟨"SealFacesModel", "place", "()I"⟩ ∈ ab_good := ab_mg sb_t7 228 rfl rfl
set_option maxRecDepth 20000 in
theorem q1780 : Cond.code ⟨"SealFacesModel", "place", "()I"⟩ prog_14_method_21_code 1 (some .int) ∈ ab_good := ab_mg sb_t7 229 rfl rfl
set_option maxRecDepth 20000 in
theorem q1781 : Cond.methodLink "SealFacesLaw" 36 ⟨"SealFacesModel", "clerk", "(II)I"⟩ ∈ ab_good := ab_mg sb_t7 230 rfl rfl
set_option maxRecDepth 20000 in
theorem q1782 : Cond.instanceMethod ⟨"SealFacesModel", "clerk", "(II)I"⟩ ∈ ab_good := ab_mg sb_t7 231 rfl rfl
set_option maxRecDepth 20000 in
theorem q1783 : Cond.selects "SealFacesModel" ⟨"SealFacesModel", "clerk", "(II)I"⟩ ⟨"SealFacesModel", "clerk", "(II)I"⟩ ∈ ab_good := ab_mg sb_t7 232 rfl rfl
set_option maxRecDepth 20000 in
theorem q1784 : Cond.code ⟨"SealFacesModel", "clerk", "(II)I"⟩ prog_14_method_67_code 3 (some .int) ∈ ab_good := ab_mg sb_t7 233 rfl rfl
set_option maxRecDepth 20000 in
theorem q1785 : Cond.methodLink "SealFacesModel" 384 ⟨"SealFacesModel", "isClerk", "(I)Z"⟩ ∈ ab_good := ab_mg sb_t7 234 rfl rfl
set_option maxRecDepth 20000 in
theorem q1787 : Cond.instanceMethod ⟨"SealFacesModel", "isClerk", "(I)Z"⟩ ∈ ab_good := ab_mg sb_t7 236 rfl rfl
set_option maxRecDepth 20000 in
theorem q1788 : Cond.code ⟨"SealFacesModel", "isClerk", "(I)Z"⟩ prog_14_method_41_code 2 (some .boolean) ∈ ab_good := ab_mg sb_t7 237 rfl rfl
set_option maxRecDepth 20000 in
theorem q1789 : Cond.methodLink "SealFacesModel" 321 ⟨"SealFacesModel", "in", "(III)Z"⟩ ∈ ab_good := ab_mg sb_t7 238 rfl rfl
set_option maxRecDepth 20000 in
theorem q1790 : Cond.static ⟨"SealFacesModel", "in", "(III)Z"⟩ ∈ ab_good := ab_mg sb_t7 239 rfl rfl
set_option maxRecDepth 20000 in
theorem q1791 : Cond.code ⟨"SealFacesModel", "in", "(III)Z"⟩ prog_14_method_37_code 3 (some .boolean) ∈ ab_good := ab_mg sb_t8 0 rfl rfl
set_option maxRecDepth 20000 in
theorem q1792 : Cond.methodLink "SealFacesModel" 387 ⟨"SealFacesModel", "copies", "()V"⟩ ∈ ab_good := ab_mg sb_t8 1 rfl rfl
set_option maxRecDepth 20000 in
theorem q1794 : Cond.instanceMethod ⟨"SealFacesModel", "copies", "()V"⟩ ∈ ab_good := ab_mg sb_t8 3 rfl rfl
set_option maxRecDepth 20000 in
theorem q1795 : Cond.code ⟨"SealFacesModel", "copies", "()V"⟩ prog_14_method_49_code 2 none ∈ ab_good := ab_mg sb_t8 4 rfl rfl
set_option maxRecDepth 20000 in
theorem q1796 : Cond.methodLink "SealFacesModel" 342 ⟨"SealFacesModel", "ageNow", "(I)I"⟩ ∈ ab_good := ab_mg sb_t8 5 rfl rfl
set_option maxRecDepth 20000 in
theorem q1798 : Cond.instanceMethod ⟨"SealFacesModel", "ageNow", "(I)I"⟩ ∈ ab_good := ab_mg sb_t8 7 rfl rfl
set_option maxRecDepth 20000 in
theorem q1799 : Cond.code ⟨"SealFacesModel", "ageNow", "(I)I"⟩ prog_14_method_52_code 2 (some .int) ∈ ab_good := ab_mg sb_t8 8 rfl rfl
set_option maxRecDepth 20000 in
theorem q1800 : Cond.methodLink "SealFacesModel" 345 ⟨"SealFacesModel", "sealedBits", "(I)I"⟩ ∈ ab_good := ab_mg sb_t8 9 rfl rfl
set_option maxRecDepth 20000 in
theorem q1802 : Cond.instanceMethod ⟨"SealFacesModel", "sealedBits", "(I)I"⟩ ∈ ab_good := ab_mg sb_t8 11 rfl rfl
set_option maxRecDepth 20000 in
theorem q1803 : Cond.code ⟨"SealFacesModel", "sealedBits", "(I)I"⟩ prog_14_method_53_code 4 (some .int) ∈ ab_good := ab_mg sb_t8 12 rfl rfl
set_option maxRecDepth 20000 in
theorem q1804 : Cond.methodLink "SealFacesModel" 348 ⟨"SealFacesModel", "bits", "(I)I"⟩ ∈ ab_good := ab_mg sb_t8 13 rfl rfl
set_option maxRecDepth 20000 in
theorem q1805 : Cond.static ⟨"SealFacesModel", "bits", "(I)I"⟩ ∈ ab_good := ab_mg sb_t8 14 rfl rfl
set_option maxRecDepth 20000 in
theorem q1806 : Cond.code ⟨"SealFacesModel", "bits", "(I)I"⟩ prog_14_method_39_code 3 (some .int) ∈ ab_good := ab_mg sb_t8 15 rfl rfl
set_option maxRecDepth 20000 in
theorem q1807 : Cond.methodLink "SealFacesLaw" 40 ⟨"SealFacesModel", "deed", "(II)I"⟩ ∈ ab_good := ab_mg sb_t8 16 rfl rfl
set_option maxRecDepth 20000 in
theorem q1808 : Cond.instanceMethod ⟨"SealFacesModel", "deed", "(II)I"⟩ ∈ ab_good := ab_mg sb_t8 17 rfl rfl
set_option maxRecDepth 20000 in
theorem q1809 : Cond.selects "SealFacesModel" ⟨"SealFacesModel", "deed", "(II)I"⟩ ⟨"SealFacesModel", "deed", "(II)I"⟩ ∈ ab_good := ab_mg sb_t8 18 rfl rfl
set_option maxRecDepth 20000 in
theorem q1810 : Cond.code ⟨"SealFacesModel", "deed", "(II)I"⟩ prog_14_method_68_code 3 (some .int) ∈ ab_good := ab_mg sb_t8 19 rfl rfl
set_option maxRecDepth 20000 in
theorem q1811 : Cond.methodLink "SealFacesModel" 390 ⟨"SealFacesModel", "isDeed", "(I)Z"⟩ ∈ ab_good := ab_mg sb_t8 20 rfl rfl
set_option maxRecDepth 20000 in
theorem q1813 : Cond.instanceMethod ⟨"SealFacesModel", "isDeed", "(I)Z"⟩ ∈ ab_good := ab_mg sb_t8 22 rfl rfl
set_option maxRecDepth 20000 in
theorem q1814 : Cond.code ⟨"SealFacesModel", "isDeed", "(I)Z"⟩ prog_14_method_42_code 2 (some .boolean) ∈ ab_good := ab_mg sb_t8 23 rfl rfl
set_option maxRecDepth 20000 in
theorem q1815 : Cond.methodLink "SealFacesModel" 354 ⟨"SealFacesModel", "needAt", "(II)I"⟩ ∈ ab_good := ab_mg sb_t8 24 rfl rfl
set_option maxRecDepth 20000 in
theorem q1817 : Cond.instanceMethod ⟨"SealFacesModel", "needAt", "(II)I"⟩ ∈ ab_good := ab_mg sb_t8 26 rfl rfl
set_option maxRecDepth 20000 in
theorem q1818 : Cond.code ⟨"SealFacesModel", "needAt", "(II)I"⟩ prog_14_method_45_code 3 (some .int) ∈ ab_good := ab_mg sb_t8 27 rfl rfl
set_option maxRecDepth 20000 in
theorem q1819 : Cond.methodLink "SealFacesModel" 357 ⟨"SealFacesModel", "worthAt", "(I)I"⟩ ∈ ab_good := ab_mg sb_t8 28 rfl rfl
set_option maxRecDepth 20000 in
theorem q1821 : Cond.instanceMethod ⟨"SealFacesModel", "worthAt", "(I)I"⟩ ∈ ab_good := ab_mg sb_t8 30 rfl rfl
set_option maxRecDepth 20000 in
theorem q1822 : Cond.code ⟨"SealFacesModel", "worthAt", "(I)I"⟩ prog_14_method_46_code 2 (some .int) ∈ ab_good := ab_mg sb_t8 31 rfl rfl
set_option maxRecDepth 20000 in
theorem q1823 : Cond.methodLink "SealFacesModel" 381 ⟨"SealFacesModel", "bindsOf", "(I)I"⟩ ∈ ab_good := ab_mg sb_t8 32 rfl rfl
set_option maxRecDepth 20000 in
theorem q1825 : Cond.instanceMethod ⟨"SealFacesModel", "bindsOf", "(I)I"⟩ ∈ ab_good := ab_mg sb_t8 34 rfl rfl
set_option maxRecDepth 20000 in
theorem q1826 : Cond.code ⟨"SealFacesModel", "bindsOf", "(I)I"⟩ prog_14_method_60_code 3 (some .int) ∈ ab_good := ab_mg sb_t8 35 rfl rfl
set_option maxRecDepth 20000 in
theorem q1827 : Cond.methodLink "SealFacesModel" 351 ⟨"SealFacesModel", "looksBy", "(I)V"⟩ ∈ ab_good := ab_mg sb_t8 36 rfl rfl
set_option maxRecDepth 20000 in
theorem q1829 : Cond.instanceMethod ⟨"SealFacesModel", "looksBy", "(I)V"⟩ ∈ ab_good := ab_mg sb_t8 38 rfl rfl
set_option maxRecDepth 20000 in
theorem q1830 : Cond.code ⟨"SealFacesModel", "looksBy", "(I)V"⟩ prog_14_method_57_code 2 none ∈ ab_good := ab_mg sb_t8 39 rfl rfl
set_option maxRecDepth 20000 in
theorem q1831 : Cond.methodLink "SealFacesModel" 339 ⟨"SealFacesModel", "looks", "()V"⟩ ∈ ab_good := ab_mg sb_t8 40 rfl rfl
set_option maxRecDepth 20000 in
theorem q1833 : Cond.instanceMethod ⟨"SealFacesModel", "looks", "()V"⟩ ∈ ab_good := ab_mg sb_t8 42 rfl rfl
set_option maxRecDepth 20000 in
theorem q1834 : Cond.code ⟨"SealFacesModel", "looks", "()V"⟩ prog_14_method_56_code 2 none ∈ ab_good := ab_mg sb_t8 43 rfl rfl
set_option maxRecDepth 20000 in
theorem q1835 : Cond.methodLink "SealFacesModel" 366 ⟨"SealFacesModel", "printSum", "(I)I"⟩ ∈ ab_good := ab_mg sb_t8 44 rfl rfl
set_option maxRecDepth 20000 in
theorem q1837 : Cond.instanceMethod ⟨"SealFacesModel", "printSum", "(I)I"⟩ ∈ ab_good := ab_mg sb_t8 46 rfl rfl
set_option maxRecDepth 20000 in
theorem q1838 : Cond.code ⟨"SealFacesModel", "printSum", "(I)I"⟩ prog_14_method_54_code 2 (some .int) ∈ ab_good := ab_mg sb_t8 47 rfl rfl
set_option maxRecDepth 20000 in
theorem q1839 : Cond.methodLink "SealFacesModel" 360 ⟨"SealFacesModel", "lawTells", "(II)I"⟩ ∈ ab_good := ab_mg sb_t8 48 rfl rfl
set_option maxRecDepth 20000 in
theorem q1841 : Cond.instanceMethod ⟨"SealFacesModel", "lawTells", "(II)I"⟩ ∈ ab_good := ab_mg sb_t8 50 rfl rfl
set_option maxRecDepth 20000 in
theorem q1842 : Cond.code ⟨"SealFacesModel", "lawTells", "(II)I"⟩ prog_14_method_55_code 7 (some .int) ∈ ab_good := ab_mg sb_t8 51 rfl rfl
set_option maxRecDepth 20000 in
theorem q1843 : Cond.methodLink "SealFacesModel" 336 ⟨"SealFacesModel", "termOf", "(II)I"⟩ ∈ ab_good := ab_mg sb_t8 52 rfl rfl
set_option maxRecDepth 20000 in
theorem q1845 : Cond.instanceMethod ⟨"SealFacesModel", "termOf", "(II)I"⟩ ∈ ab_good := ab_mg sb_t8 54 rfl rfl
set_option maxRecDepth 20000 in
theorem q1846 : Cond.code ⟨"SealFacesModel", "termOf", "(II)I"⟩ prog_14_method_36_code 8 (some .int) ∈ ab_good := ab_mg sb_t8 55 rfl rfl
set_option maxRecDepth 20000 in
theorem q1847 : Cond.methodLink "SealFacesModel" 363 ⟨"SealFacesModel", "within", "(III)I"⟩ ∈ ab_good := ab_mg sb_t8 56 rfl rfl
set_option maxRecDepth 20000 in
theorem q1848 : Cond.static ⟨"SealFacesModel", "within", "(III)I"⟩ ∈ ab_good := ab_mg sb_t8 57 rfl rfl
set_option maxRecDepth 20000 in
theorem q1849 : Cond.code ⟨"SealFacesModel", "within", "(III)I"⟩ prog_14_method_38_code 3 (some .int) ∈ ab_good := ab_mg sb_t8 58 rfl rfl
set_option maxRecDepth 20000 in
theorem q1850 : Cond.methodLink "SealFacesLaw" 44 ⟨"SealFacesModel", "treaty", "(II)I"⟩ ∈ ab_good := ab_mg sb_t8 59 rfl rfl
set_option maxRecDepth 20000 in
theorem q1851 : Cond.instanceMethod ⟨"SealFacesModel", "treaty", "(II)I"⟩ ∈ ab_good := ab_mg sb_t8 60 rfl rfl
set_option maxRecDepth 20000 in
theorem q1852 : Cond.selects "SealFacesModel" ⟨"SealFacesModel", "treaty", "(II)I"⟩ ⟨"SealFacesModel", "treaty", "(II)I"⟩ ∈ ab_good := ab_mg sb_t8 61 rfl rfl
set_option maxRecDepth 20000 in
theorem q1853 : Cond.code ⟨"SealFacesModel", "treaty", "(II)I"⟩ prog_14_method_70_code 3 (some .int) ∈ ab_good := ab_mg sb_t8 62 rfl rfl
set_option maxRecDepth 20000 in
theorem q1854 : Cond.methodLink "SealFacesModel" 393 ⟨"SealFacesModel", "doesHold", "(I)Z"⟩ ∈ ab_good := ab_mg sb_t8 63 rfl rfl
set_option maxRecDepth 20000 in
theorem q1856 : Cond.instanceMethod ⟨"SealFacesModel", "doesHold", "(I)Z"⟩ ∈ ab_good := ab_mg sb_t8 65 rfl rfl
set_option maxRecDepth 20000 in
theorem q1857 : Cond.code ⟨"SealFacesModel", "doesHold", "(I)Z"⟩ prog_14_method_69_code 4 (some .boolean) ∈ ab_good := ab_mg sb_t8 66 rfl rfl
set_option maxRecDepth 20000 in
theorem q1858 : Cond.methodLink "SealFacesLaw" 49 ⟨"SealFacesModel", "takes", "(III)I"⟩ ∈ ab_good := ab_mg sb_t8 67 rfl rfl
set_option maxRecDepth 20000 in
theorem q1859 : Cond.instanceMethod ⟨"SealFacesModel", "takes", "(III)I"⟩ ∈ ab_good := ab_mg sb_t8 68 rfl rfl
set_option maxRecDepth 20000 in
theorem q1860 : Cond.selects "SealFacesModel" ⟨"SealFacesModel", "takes", "(III)I"⟩ ⟨"SealFacesModel", "takes", "(III)I"⟩ ∈ ab_good := ab_mg sb_t8 69 rfl rfl
set_option maxRecDepth 20000 in
theorem q1861 : Cond.code ⟨"SealFacesModel", "takes", "(III)I"⟩ prog_14_method_71_code 4 (some .int) ∈ ab_good := ab_mg sb_t8 70 rfl rfl
set_option maxRecDepth 20000 in
theorem q1862 : Cond.methodLink "SealFacesModel" 396 ⟨"SealFacesModel", "isFeature", "(I)Z"⟩ ∈ ab_good := ab_mg sb_t8 71 rfl rfl
set_option maxRecDepth 20000 in
theorem q1863 : Cond.static ⟨"SealFacesModel", "isFeature", "(I)Z"⟩ ∈ ab_good := ab_mg sb_t8 72 rfl rfl
set_option maxRecDepth 20000 in
theorem q1864 : Cond.code ⟨"SealFacesModel", "isFeature", "(I)Z"⟩ prog_14_method_43_code 1 (some .boolean) ∈ ab_good := ab_mg sb_t8 73 rfl rfl
set_option maxRecDepth 20000 in
theorem q1865 : Cond.methodLink "SealFacesModel" 369 ⟨"SealFacesModel", "takesOf", "(III)I"⟩ ∈ ab_good := ab_mg sb_t8 74 rfl rfl
set_option maxRecDepth 20000 in
theorem q1867 : Cond.instanceMethod ⟨"SealFacesModel", "takesOf", "(III)I"⟩ ∈ ab_good := ab_mg sb_t8 76 rfl rfl
set_option maxRecDepth 20000 in
theorem q1868 : Cond.code ⟨"SealFacesModel", "takesOf", "(III)I"⟩ prog_14_method_58_code 4 (some .int) ∈ ab_good := ab_mg sb_t8 77 rfl rfl
set_option maxRecDepth 20000 in
theorem q1869 : Cond.methodLink "SealFacesLaw" 54 ⟨"SealFacesModel", "seal", "(II)Z"⟩ ∈ ab_good := ab_mg sb_t8 78 rfl rfl
set_option maxRecDepth 20000 in
theorem q1870 : Cond.instanceMethod ⟨"SealFacesModel", "seal", "(II)Z"⟩ ∈ ab_good := ab_mg sb_t8 79 rfl rfl
set_option maxRecDepth 20000 in
theorem q1871 : Cond.selects "SealFacesModel" ⟨"SealFacesModel", "seal", "(II)Z"⟩ ⟨"SealFacesModel", "seal", "(II)Z"⟩ ∈ ab_good := ab_mg sb_t8 80 rfl rfl
set_option maxRecDepth 20000 in
theorem q1872 : Cond.code ⟨"SealFacesModel", "seal", "(II)Z"⟩ prog_14_method_73_code 3 (some .boolean) ∈ ab_good := ab_mg sb_t8 81 rfl rfl
set_option maxRecDepth 20000 in
theorem q1873 : Cond.methodLink "SealFacesModel" 399 ⟨"SealFacesModel", "canSeal", "(II)Z"⟩ ∈ ab_good := ab_mg sb_t8 82 rfl rfl
set_option maxRecDepth 20000 in
theorem q1875 : Cond.instanceMethod ⟨"SealFacesModel", "canSeal", "(II)Z"⟩ ∈ ab_good := ab_mg sb_t8 84 rfl rfl
set_option maxRecDepth 20000 in
theorem q1876 : Cond.code ⟨"SealFacesModel", "canSeal", "(II)Z"⟩ prog_14_method_62_code 5 (some .boolean) ∈ ab_good := ab_mg sb_t8 85 rfl rfl
set_option maxRecDepth 20000 in
theorem q1877 : Cond.methodLink "SealFacesModel" 403 ⟨"SealFacesModel", "seals", "(II)V"⟩ ∈ ab_good := ab_mg sb_t8 86 rfl rfl
set_option maxRecDepth 20000 in
theorem q1879 : Cond.instanceMethod ⟨"SealFacesModel", "seals", "(II)V"⟩ ∈ ab_good := ab_mg sb_t8 88 rfl rfl
set_option maxRecDepth 20000 in
theorem q1880 : Cond.code ⟨"SealFacesModel", "seals", "(II)V"⟩ prog_14_method_63_code 4 none ∈ ab_good := ab_mg sb_t8 89 rfl rfl
set_option maxRecDepth 20000 in
theorem q1881 : Cond.methodLink "SealFacesModel" 406 ⟨"SealFacesModel", "records", "()V"⟩ ∈ ab_good := ab_mg sb_t8 90 rfl rfl
set_option maxRecDepth 20000 in
theorem q1883 : Cond.instanceMethod ⟨"SealFacesModel", "records", "()V"⟩ ∈ ab_good := ab_mg sb_t8 92 rfl rfl
set_option maxRecDepth 20000 in
theorem q1884 : Cond.code ⟨"SealFacesModel", "records", "()V"⟩ prog_14_method_72_code 2 none ∈ ab_good := ab_mg sb_t8 93 rfl rfl
set_option maxRecDepth 20000 in
theorem q1885 : Cond.methodLink "SealFacesLaw" 59 ⟨"SealFacesModel", "forge", "(I)Z"⟩ ∈ ab_good := ab_mg sb_t8 94 rfl rfl
set_option maxRecDepth 20000 in
theorem q1886 : Cond.instanceMethod ⟨"SealFacesModel", "forge", "(I)Z"⟩ ∈ ab_good := ab_mg sb_t8 95 rfl rfl
set_option maxRecDepth 20000 in
theorem q1887 : Cond.selects "SealFacesModel" ⟨"SealFacesModel", "forge", "(I)Z"⟩ ⟨"SealFacesModel", "forge", "(I)Z"⟩ ∈ ab_good := ab_mg sb_t8 96 rfl rfl
set_option maxRecDepth 20000 in
theorem q1888 : Cond.code ⟨"SealFacesModel", "forge", "(I)Z"⟩ prog_14_method_76_code 2 (some .boolean) ∈ ab_good := ab_mg sb_t8 97 rfl rfl
set_option maxRecDepth 20000 in
theorem q1889 : Cond.methodLink "SealFacesModel" 409 ⟨"SealFacesModel", "isOpen", "(I)Z"⟩ ∈ ab_good := ab_mg sb_t8 98 rfl rfl
set_option maxRecDepth 20000 in
theorem q1891 : Cond.instanceMethod ⟨"SealFacesModel", "isOpen", "(I)Z"⟩ ∈ ab_good := ab_mg sb_t8 100 rfl rfl
set_option maxRecDepth 20000 in
theorem q1892 : Cond.code ⟨"SealFacesModel", "isOpen", "(I)Z"⟩ prog_14_method_75_code 2 (some .boolean) ∈ ab_good := ab_mg sb_t8 101 rfl rfl
set_option maxRecDepth 20000 in
theorem q1893 : Cond.methodLink "SealFacesModel" 412 ⟨"SealFacesModel", "becomes", "(II)V"⟩ ∈ ab_good := ab_mg sb_t8 102 rfl rfl
set_option maxRecDepth 20000 in
theorem q1895 : Cond.instanceMethod ⟨"SealFacesModel", "becomes", "(II)V"⟩ ∈ ab_good := ab_mg sb_t8 104 rfl rfl
set_option maxRecDepth 20000 in
theorem q1896 : Cond.code ⟨"SealFacesModel", "becomes", "(II)V"⟩ prog_14_method_74_code 4 none ∈ ab_good := ab_mg sb_t8 105 rfl rfl
set_option maxRecDepth 20000 in
theorem q1897 : Cond.methodLink "SealFacesLaw" 63 ⟨"SealFacesModel", "burn", "(I)Z"⟩ ∈ ab_good := ab_mg sb_t8 106 rfl rfl
set_option maxRecDepth 20000 in
theorem q1898 : Cond.instanceMethod ⟨"SealFacesModel", "burn", "(I)Z"⟩ ∈ ab_good := ab_mg sb_t8 107 rfl rfl
set_option maxRecDepth 20000 in
theorem q1899 : Cond.selects "SealFacesModel" ⟨"SealFacesModel", "burn", "(I)Z"⟩ ⟨"SealFacesModel", "burn", "(I)Z"⟩ ∈ ab_good := ab_mg sb_t8 108 rfl rfl
set_option maxRecDepth 20000 in
theorem q1900 : Cond.code ⟨"SealFacesModel", "burn", "(I)Z"⟩ prog_14_method_77_code 2 (some .boolean) ∈ ab_good := ab_mg sb_t8 109 rfl rfl
set_option maxRecDepth 20000 in
theorem q1901 : Cond.methodLink "SealFacesLaw" 67 ⟨"SealFacesModel", "years", "(I)I"⟩ ∈ ab_good := ab_mg sb_t8 110 rfl rfl
set_option maxRecDepth 20000 in
theorem q1902 : Cond.instanceMethod ⟨"SealFacesModel", "years", "(I)I"⟩ ∈ ab_good := ab_mg sb_t8 111 rfl rfl
set_option maxRecDepth 20000 in
theorem q1903 : Cond.selects "SealFacesModel" ⟨"SealFacesModel", "years", "(I)I"⟩ ⟨"SealFacesModel", "years", "(I)I"⟩ ∈ ab_good := ab_mg sb_t8 112 rfl rfl
set_option maxRecDepth 20000 in
theorem q1904 : Cond.code ⟨"SealFacesModel", "years", "(I)I"⟩ prog_14_method_79_code 2 (some .int) ∈ ab_good := ab_mg sb_t8 113 rfl rfl
set_option maxRecDepth 20000 in
theorem q1905 : Cond.methodLink "SealFacesModel" 415 ⟨"SealFacesModel", "isLong", "(I)Z"⟩ ∈ ab_good := ab_mg sb_t8 114 rfl rfl
set_option maxRecDepth 20000 in
theorem q1906 : Cond.static ⟨"SealFacesModel", "isLong", "(I)Z"⟩ ∈ ab_good := ab_mg sb_t8 115 rfl rfl
set_option maxRecDepth 20000 in
theorem q1907 : Cond.code ⟨"SealFacesModel", "isLong", "(I)Z"⟩ prog_14_method_78_code 1 (some .boolean) ∈ ab_good := ab_mg sb_t8 116 rfl rfl
set_option maxRecDepth 20000 in
theorem q1908 : Cond.methodLink "SealFacesModel" 418 ⟨"SealFacesModel", "goes", "(I)V"⟩ ∈ ab_good := ab_mg sb_t8 117 rfl rfl
set_option maxRecDepth 20000 in
theorem q1910 : Cond.instanceMethod ⟨"SealFacesModel", "goes", "(I)V"⟩ ∈ ab_good := ab_mg sb_t8 119 rfl rfl
set_option maxRecDepth 20000 in
theorem q1911 : Cond.code ⟨"SealFacesModel", "goes", "(I)V"⟩ prog_14_method_65_code 3 none ∈ ab_good := ab_mg sb_t8 120 rfl rfl
set_option maxRecDepth 20000 in
theorem q1912 : Cond.methodLink "SealFacesModel" 378 ⟨"SealFacesModel", "yearGoes", "()V"⟩ ∈ ab_good := ab_mg sb_t8 121 rfl rfl
set_option maxRecDepth 20000 in
theorem q1914 : Cond.instanceMethod ⟨"SealFacesModel", "yearGoes", "()V"⟩ ∈ ab_good := ab_mg sb_t8 123 rfl rfl
set_option maxRecDepth 20000 in
theorem q1915 : Cond.code ⟨"SealFacesModel", "yearGoes", "()V"⟩ prog_14_method_64_code 2 none ∈ ab_good := ab_mg sb_t8 124 rfl rfl
set_option maxRecDepth 20000 in
theorem q1916 : Cond.methodLink "SealFacesModel" 372 ⟨"SealFacesModel", "growsOf", "(II)I"⟩ ∈ ab_good := ab_mg sb_t8 125 rfl rfl
set_option maxRecDepth 20000 in
theorem q1918 : Cond.instanceMethod ⟨"SealFacesModel", "growsOf", "(II)I"⟩ ∈ ab_good := ab_mg sb_t8 127 rfl rfl
set_option maxRecDepth 20000 in
theorem q1919 : Cond.code ⟨"SealFacesModel", "growsOf", "(II)I"⟩ prog_14_method_59_code 3 (some .int) ∈ ab_good := ab_mg sb_t8 128 rfl rfl
set_option maxRecDepth 20000 in
theorem q1920 : Cond.methodLink "SealFacesModel" 375 ⟨"SealFacesModel", "fadesOf", "(II)I"⟩ ∈ ab_good := ab_mg sb_t8 129 rfl rfl
set_option maxRecDepth 20000 in
theorem q1922 : Cond.instanceMethod ⟨"SealFacesModel", "fadesOf", "(II)I"⟩ ∈ ab_good := ab_mg sb_t8 131 rfl rfl
set_option maxRecDepth 20000 in
theorem q1923 : Cond.code ⟨"SealFacesModel", "fadesOf", "(II)I"⟩ prog_14_method_61_code 3 (some .int) ∈ ab_good := ab_mg sb_t8 132 rfl rfl
set_option maxRecDepth 20000 in
theorem q1924 : Cond.methodLink "SealFacesLaw" 72 ⟨"SealFacesModel", "undo", "()Z"⟩ ∈ ab_good := ab_mg sb_t8 133 rfl rfl
set_option maxRecDepth 20000 in
theorem q1925 : Cond.instanceMethod ⟨"SealFacesModel", "undo", "()Z"⟩ ∈ ab_good := ab_mg sb_t8 134 rfl rfl
set_option maxRecDepth 20000 in
theorem q1926 : Cond.selects "SealFacesModel" ⟨"SealFacesModel", "undo", "()Z"⟩ ⟨"SealFacesModel", "undo", "()Z"⟩ ∈ ab_good := ab_mg sb_t8 135 rfl rfl
set_option maxRecDepth 20000 in
theorem q1927 : Cond.code ⟨"SealFacesModel", "undo", "()Z"⟩ prog_14_method_80_code 2 (some .boolean) ∈ ab_good := ab_mg sb_t8 136 rfl rfl
set_option maxRecDepth 20000 in
theorem q1928 : Cond.methodLink "SealFacesLaw" 76 ⟨"SealFacesModel", "all", "(I)I"⟩ ∈ ab_good := ab_mg sb_t8 137 rfl rfl
set_option maxRecDepth 20000 in
theorem q1929 : Cond.instanceMethod ⟨"SealFacesModel", "all", "(I)I"⟩ ∈ ab_good := ab_mg sb_t8 138 rfl rfl
set_option maxRecDepth 20000 in
theorem q1930 : Cond.selects "SealFacesModel" ⟨"SealFacesModel", "all", "(I)I"⟩ ⟨"SealFacesModel", "all", "(I)I"⟩ ∈ ab_good := ab_mg sb_t8 139 rfl rfl
set_option maxRecDepth 20000 in
theorem q1931 : Cond.code ⟨"SealFacesModel", "all", "(I)I"⟩ prog_14_method_85_code 3 (some .int) ∈ ab_good := ab_mg sb_t8 140 rfl rfl
set_option maxRecDepth 20000 in
theorem q1932 : Cond.methodLink "SealFacesModel" 433 ⟨"SealFacesModel", "fillsAll", "()I"⟩ ∈ ab_good := ab_mg sb_t8 141 rfl rfl
set_option maxRecDepth 20000 in
theorem q1934 : Cond.instanceMethod ⟨"SealFacesModel", "fillsAll", "()I"⟩ ∈ ab_good := ab_mg sb_t8 143 rfl rfl
set_option maxRecDepth 20000 in
theorem q1935 : Cond.code ⟨"SealFacesModel", "fillsAll", "()I"⟩ prog_14_method_84_code 7 (some .int) ∈ ab_good := ab_mg sb_t8 144 rfl rfl
set_option maxRecDepth 20000 in
theorem q1936 : Cond.methodLink "SealFacesModel" 427 ⟨"SealFacesModel", "fillsOpen", "()V"⟩ ∈ ab_good := ab_mg sb_t8 145 rfl rfl
set_option maxRecDepth 20000 in
theorem q1938 : Cond.instanceMethod ⟨"SealFacesModel", "fillsOpen", "()V"⟩ ∈ ab_good := ab_mg sb_t8 147 rfl rfl
set_option maxRecDepth 20000 in
theorem q1939 : Cond.code ⟨"SealFacesModel", "fillsOpen", "()V"⟩ prog_14_method_81_code 2 none ∈ ab_good := ab_mg sb_t8 148 rfl rfl
set_option maxRecDepth 20000 in
theorem q1940 : Cond.methodLink "SealFacesModel" 424 ⟨"SealFacesModel", "power", "(II)I"⟩ ∈ ab_good := ab_mg sb_t8 149 rfl rfl
set_option maxRecDepth 20000 in
theorem q1941 : Cond.static ⟨"SealFacesModel", "power", "(II)I"⟩ ∈ ab_good := ab_mg sb_t8 150 rfl rfl
set_option maxRecDepth 20000 in
theorem q1942 : Cond.code ⟨"SealFacesModel", "power", "(II)I"⟩ prog_14_method_82_code 4 (some .int) ∈ ab_good := ab_mg sb_t8 151 rfl rfl
set_option maxRecDepth 20000 in
theorem q1943 : Cond.methodLink "SealFacesModel" 430 ⟨"SealFacesModel", "goesBy", "(II)I"⟩ ∈ ab_good := ab_mg sb_t8 152 rfl rfl
set_option maxRecDepth 20000 in
theorem q1945 : Cond.instanceMethod ⟨"SealFacesModel", "goesBy", "(II)I"⟩ ∈ ab_good := ab_mg sb_t8 154 rfl rfl
set_option maxRecDepth 20000 in
theorem q1946 : Cond.code ⟨"SealFacesModel", "goesBy", "(II)I"⟩ prog_14_method_83_code 6 (some .int) ∈ ab_good := ab_mg sb_t8 155 rfl rfl
set_option maxRecDepth 20000 in
theorem q1947 : Cond.methodLink "SealFacesLaw" 80 ⟨"SealFacesModel", "fewest", "(I)I"⟩ ∈ ab_good := ab_mg sb_t8 156 rfl rfl
set_option maxRecDepth 20000 in
theorem q1948 : Cond.instanceMethod ⟨"SealFacesModel", "fewest", "(I)I"⟩ ∈ ab_good := ab_mg sb_t8 157 rfl rfl
set_option maxRecDepth 20000 in
theorem q1949 : Cond.selects "SealFacesModel" ⟨"SealFacesModel", "fewest", "(I)I"⟩ ⟨"SealFacesModel", "fewest", "(I)I"⟩ ∈ ab_good := ab_mg sb_t8 158 rfl rfl
set_option maxRecDepth 20000 in
theorem q1950 : Cond.code ⟨"SealFacesModel", "fewest", "(I)I"⟩ prog_14_method_86_code 8 (some .int) ∈ ab_good := ab_mg sb_t8 159 rfl rfl
set_option maxRecDepth 20000 in
theorem q1951 : Cond.methodLink "SealFacesLaw" 84 ⟨"SealFacesModel", "match", "(I)I"⟩ ∈ ab_good := ab_mg sb_t8 160 rfl rfl
set_option maxRecDepth 20000 in
theorem q1952 : Cond.instanceMethod ⟨"SealFacesModel", "match", "(I)I"⟩ ∈ ab_good := ab_mg sb_t8 161 rfl rfl
set_option maxRecDepth 20000 in
theorem q1953 : Cond.selects "SealFacesModel" ⟨"SealFacesModel", "match", "(I)I"⟩ ⟨"SealFacesModel", "match", "(I)I"⟩ ∈ ab_good := ab_mg sb_t8 162 rfl rfl
set_option maxRecDepth 20000 in
theorem q1954 : Cond.code ⟨"SealFacesModel", "match", "(I)I"⟩ prog_14_method_90_code 6 (some .int) ∈ ab_good := ab_mg sb_t8 163 rfl rfl
set_option maxRecDepth 20000 in
theorem q1955 : Cond.methodLink "SealFacesModel" 442 ⟨"SealFacesModel", "fillsMatch", "()V"⟩ ∈ ab_good := ab_mg sb_t8 164 rfl rfl
set_option maxRecDepth 20000 in
theorem q1957 : Cond.instanceMethod ⟨"SealFacesModel", "fillsMatch", "()V"⟩ ∈ ab_good := ab_mg sb_t8 166 rfl rfl
set_option maxRecDepth 20000 in
theorem q1958 : Cond.code ⟨"SealFacesModel", "fillsMatch", "()V"⟩ prog_14_method_89_code 5 none ∈ ab_good := ab_mg sb_t8 167 rfl rfl
set_option maxRecDepth 20000 in
theorem q1959 : Cond.methodLink "SealFacesModel" 436 ⟨"SealFacesModel", "mayHave", "(III)Z"⟩ ∈ ab_good := ab_mg sb_t8 168 rfl rfl
set_option maxRecDepth 20000 in
theorem q1961 : Cond.instanceMethod ⟨"SealFacesModel", "mayHave", "(III)Z"⟩ ∈ ab_good := ab_mg sb_t8 170 rfl rfl
set_option maxRecDepth 20000 in
theorem q1962 : Cond.code ⟨"SealFacesModel", "mayHave", "(III)Z"⟩ prog_14_method_87_code 4 (some .boolean) ∈ ab_good := ab_mg sb_t8 171 rfl rfl
set_option maxRecDepth 20000 in
theorem q1963 : Cond.methodLink "SealFacesModel" 439 ⟨"SealFacesModel", "matchWith", "(III)I"⟩ ∈ ab_good := ab_mg sb_t8 172 rfl rfl
set_option maxRecDepth 20000 in
theorem q1965 : Cond.instanceMethod ⟨"SealFacesModel", "matchWith", "(III)I"⟩ ∈ ab_good := ab_mg sb_t8 174 rfl rfl
set_option maxRecDepth 20000 in
theorem q1966 : Cond.code ⟨"SealFacesModel", "matchWith", "(III)I"⟩ prog_14_method_88_code 4 (some .int) ∈ ab_good := ab_mg sb_t8 175 rfl rfl
set_option maxRecDepth 20000 in
theorem q1967 : Cond.methodLink "SealFacesLaw" 88 ⟨"SealFacesModel", "greatest", "(I)I"⟩ ∈ ab_good := ab_mg sb_t8 176 rfl rfl
set_option maxRecDepth 20000 in
theorem q1968 : Cond.instanceMethod ⟨"SealFacesModel", "greatest", "(I)I"⟩ ∈ ab_good := ab_mg sb_t8 177 rfl rfl
set_option maxRecDepth 20000 in
theorem q1969 : Cond.selects "SealFacesModel" ⟨"SealFacesModel", "greatest", "(I)I"⟩ ⟨"SealFacesModel", "greatest", "(I)I"⟩ ∈ ab_good := ab_mg sb_t8 178 rfl rfl
set_option maxRecDepth 20000 in
theorem q1970 : Cond.code ⟨"SealFacesModel", "greatest", "(I)I"⟩ prog_14_method_91_code 4 (some .int) ∈ ab_good := ab_mg sb_t8 179 rfl rfl
set_option maxRecDepth 20000 in
theorem q1971 : Cond.methodLink "SealFacesLaw" 92 ⟨"SealFacesModel", "weakest", "(I)I"⟩ ∈ ab_good := ab_mg sb_t8 180 rfl rfl
set_option maxRecDepth 20000 in
theorem q1972 : Cond.instanceMethod ⟨"SealFacesModel", "weakest", "(I)I"⟩ ∈ ab_good := ab_mg sb_t8 181 rfl rfl
set_option maxRecDepth 20000 in
theorem q1973 : Cond.selects "SealFacesModel" ⟨"SealFacesModel", "weakest", "(I)I"⟩ ⟨"SealFacesModel", "weakest", "(I)I"⟩ ∈ ab_good := ab_mg sb_t8 182 rfl rfl
set_option maxRecDepth 20000 in
theorem q1974 : Cond.code ⟨"SealFacesModel", "weakest", "(I)I"⟩ prog_14_method_93_code 4 (some .int) ∈ ab_good := ab_mg sb_t8 183 rfl rfl
set_option maxRecDepth 20000 in
theorem q1975 : Cond.methodLink "SealFacesModel" 445 ⟨"SealFacesModel", "weakOf", "(I)I"⟩ ∈ ab_good := ab_mg sb_t8 184 rfl rfl
set_option maxRecDepth 20000 in
theorem q1977 : Cond.instanceMethod ⟨"SealFacesModel", "weakOf", "(I)I"⟩ ∈ ab_good := ab_mg sb_t8 186 rfl rfl
set_option maxRecDepth 20000 in
theorem q1978 : Cond.code ⟨"SealFacesModel", "weakOf", "(I)I"⟩ prog_14_method_92_code 4 (some .int) ∈ ab_good := ab_mg sb_t8 187 rfl rfl
set_option maxRecDepth 20000 in
theorem q1979 : Cond.methodLink "SealFacesLaw" 96 ⟨"SealFacesModel", "hands", "(I)I"⟩ ∈ ab_good := ab_mg sb_t8 188 rfl rfl
set_option maxRecDepth 20000 in
theorem q1980 : Cond.instanceMethod ⟨"SealFacesModel", "hands", "(I)I"⟩ ∈ ab_good := ab_mg sb_t8 189 rfl rfl
set_option maxRecDepth 20000 in
theorem q1981 : Cond.selects "SealFacesModel" ⟨"SealFacesModel", "hands", "(I)I"⟩ ⟨"SealFacesModel", "hands", "(I)I"⟩ ∈ ab_good := ab_mg sb_t8 190 rfl rfl
set_option maxRecDepth 20000 in
theorem q1982 : Cond.code ⟨"SealFacesModel", "hands", "(I)I"⟩ prog_14_method_95_code 2 (some .int) ∈ ab_good := ab_mg sb_t8 191 rfl rfl
set_option maxRecDepth 20000 in
theorem q1983 : Cond.methodLink "SealFacesModel" 448 ⟨"SealFacesModel", "handsOf", "(I)I"⟩ ∈ ab_good := ab_mg sb_t8 192 rfl rfl
set_option maxRecDepth 20000 in
theorem q1985 : Cond.instanceMethod ⟨"SealFacesModel", "handsOf", "(I)I"⟩ ∈ ab_good := ab_mg sb_t8 194 rfl rfl
set_option maxRecDepth 20000 in
theorem q1986 : Cond.code ⟨"SealFacesModel", "handsOf", "(I)I"⟩ prog_14_method_94_code 4 (some .int) ∈ ab_good := ab_mg sb_t8 195 rfl rfl
set_option maxRecDepth 20000 in
theorem q1987 : Cond.methodLink "SealFacesLaw" 100 ⟨"SealFacesModel", "work", "(I)I"⟩ ∈ ab_good := ab_mg sb_t8 196 rfl rfl
set_option maxRecDepth 20000 in
theorem q1988 : Cond.instanceMethod ⟨"SealFacesModel", "work", "(I)I"⟩ ∈ ab_good := ab_mg sb_t8 197 rfl rfl
set_option maxRecDepth 20000 in
theorem q1989 : Cond.selects "SealFacesModel" ⟨"SealFacesModel", "work", "(I)I"⟩ ⟨"SealFacesModel", "work", "(I)I"⟩ ∈ ab_good := ab_mg sb_t8 198 rfl rfl
set_option maxRecDepth 20000 in
theorem q1990 : Cond.code ⟨"SealFacesModel", "work", "(I)I"⟩ prog_14_method_97_code 2 (some .int) ∈ ab_good := ab_mg sb_t8 199 rfl rfl
set_option maxRecDepth 20000 in
theorem q1991 : Cond.methodLink "SealFacesModel" 451 ⟨"SealFacesModel", "workOf", "(I)I"⟩ ∈ ab_good := ab_mg sb_t8 200 rfl rfl
set_option maxRecDepth 20000 in
theorem q1993 : Cond.instanceMethod ⟨"SealFacesModel", "workOf", "(I)I"⟩ ∈ ab_good := ab_mg sb_t8 202 rfl rfl
set_option maxRecDepth 20000 in
theorem q1994 : Cond.code ⟨"SealFacesModel", "workOf", "(I)I"⟩ prog_14_method_96_code 4 (some .int) ∈ ab_good := ab_mg sb_t8 203 rfl rfl
set_option maxRecDepth 20000 in
theorem q1995 : Cond.methodLink "SealFacesLaw" 104 ⟨"SealFacesModel", "game", "(I)I"⟩ ∈ ab_good := ab_mg sb_t8 204 rfl rfl
set_option maxRecDepth 20000 in
theorem q1996 : Cond.instanceMethod ⟨"SealFacesModel", "game", "(I)I"⟩ ∈ ab_good := ab_mg sb_t8 205 rfl rfl
set_option maxRecDepth 20000 in
theorem q1997 : Cond.selects "SealFacesModel" ⟨"SealFacesModel", "game", "(I)I"⟩ ⟨"SealFacesModel", "game", "(I)I"⟩ ∈ ab_good := ab_mg sb_t8 206 rfl rfl
set_option maxRecDepth 20000 in
theorem q1998 : Cond.code ⟨"SealFacesModel", "game", "(I)I"⟩ prog_14_method_100_code 4 (some .int) ∈ ab_good := ab_mg sb_t8 207 rfl rfl
set_option maxRecDepth 20000 in
theorem q1999 : Cond.constant "SealFacesModel" 457 (-100000) ∈ ab_good := ab_mg sb_t8 208 rfl rfl
set_option maxRecDepth 20000 in
theorem q2000 : Cond.methodLink "SealFacesModel" 458 ⟨"SealFacesModel", "gameBest", "(I)I"⟩ ∈ ab_good := ab_mg sb_t8 209 rfl rfl
set_option maxRecDepth 20000 in
theorem q2002 : Cond.instanceMethod ⟨"SealFacesModel", "gameBest", "(I)I"⟩ ∈ ab_good := ab_mg sb_t8 211 rfl rfl
set_option maxRecDepth 20000 in
theorem q2003 : Cond.code ⟨"SealFacesModel", "gameBest", "(I)I"⟩ prog_14_method_99_code 4 (some .int) ∈ ab_good := ab_mg sb_t8 212 rfl rfl
set_option maxRecDepth 20000 in
theorem q2004 : Cond.methodLink "SealFacesModel" 454 ⟨"SealFacesModel", "gameWith", "(II)I"⟩ ∈ ab_good := ab_mg sb_t8 213 rfl rfl
set_option maxRecDepth 20000 in
theorem q2006 : Cond.instanceMethod ⟨"SealFacesModel", "gameWith", "(II)I"⟩ ∈ ab_good := ab_mg sb_t8 215 rfl rfl
set_option maxRecDepth 20000 in
theorem q2007 : Cond.code ⟨"SealFacesModel", "gameWith", "(II)I"⟩ prog_14_method_98_code 3 (some .int) ∈ ab_good := ab_mg sb_t8 216 rfl rfl
set_option maxRecDepth 20000 in
theorem q2008 : Cond.methodLink "SealFacesLaw" 108 ⟨"SealFacesModel", "breaks", "(I)I"⟩ ∈ ab_good := ab_mg sb_t8 217 rfl rfl
set_option maxRecDepth 20000 in
theorem q2009 : Cond.instanceMethod ⟨"SealFacesModel", "breaks", "(I)I"⟩ ∈ ab_good := ab_mg sb_t8 218 rfl rfl
set_option maxRecDepth 20000 in
theorem q2010 : Cond.selects "SealFacesModel" ⟨"SealFacesModel", "breaks", "(I)I"⟩ ⟨"SealFacesModel", "breaks", "(I)I"⟩ ∈ ab_good := ab_mg sb_t8 219 rfl rfl
set_option maxRecDepth 20000 in
theorem q2011 : Cond.code ⟨"SealFacesModel", "breaks", "(I)I"⟩ prog_14_method_101_code 7 (some .int) ∈ ab_good := ab_mg sb_t8 220 rfl rfl
set_option maxRecDepth 20000 in
theorem q2012 : Cond.methodLink "SealFacesLaw" 112 ⟨"SealFacesModel", "lent", "(II)I"⟩ ∈ ab_good := ab_mg sb_t8 221 rfl rfl
set_option maxRecDepth 20000 in
theorem q2013 : Cond.instanceMethod ⟨"SealFacesModel", "lent", "(II)I"⟩ ∈ ab_good := ab_mg sb_t8 222 rfl rfl
set_option maxRecDepth 20000 in
theorem q2014 : Cond.selects "SealFacesModel" ⟨"SealFacesModel", "lent", "(II)I"⟩ ⟨"SealFacesModel", "lent", "(II)I"⟩ ∈ ab_good := ab_mg sb_t8 223 rfl rfl
set_option maxRecDepth 20000 in
theorem q2015 : Cond.code ⟨"SealFacesModel", "lent", "(II)I"⟩ prog_14_method_102_code 5 (some .int) ∈ ab_good := ab_mg sb_t8 224 rfl rfl
set_option maxRecDepth 20000 in
theorem q2016 : Cond.methodLink "SealFacesLaw" 116 ⟨"SealFacesModel", "apart", "(II)I"⟩ ∈ ab_good := ab_mg sb_t8 225 rfl rfl
set_option maxRecDepth 20000 in
theorem q2017 : Cond.instanceMethod ⟨"SealFacesModel", "apart", "(II)I"⟩ ∈ ab_good := ab_mg sb_t8 226 rfl rfl
set_option maxRecDepth 20000 in
theorem q2018 : Cond.selects "SealFacesModel" ⟨"SealFacesModel", "apart", "(II)I"⟩ ⟨"SealFacesModel", "apart", "(II)I"⟩ ∈ ab_good := ab_mg sb_t8 227 rfl rfl
set_option maxRecDepth 20000 in
theorem q2019 : Cond.code ⟨"SealFacesModel", "apart", "(II)I"⟩ prog_14_method_104_code 3 (some .int) ∈ ab_good := ab_mg sb_t8 228 rfl rfl
set_option maxRecDepth 20000 in
theorem q2020 : Cond.methodLink "SealFacesModel" 464 ⟨"SealFacesModel", "apartOf", "(II)I"⟩ ∈ ab_good := ab_mg sb_t8 229 rfl rfl
set_option maxRecDepth 20000 in
theorem q2022 : Cond.instanceMethod ⟨"SealFacesModel", "apartOf", "(II)I"⟩ ∈ ab_good := ab_mg sb_t8 231 rfl rfl
set_option maxRecDepth 20000 in
theorem q2023 : Cond.code ⟨"SealFacesModel", "apartOf", "(II)I"⟩ prog_14_method_103_code 5 (some .int) ∈ ab_good := ab_mg sb_t8 232 rfl rfl
set_option maxRecDepth 20000 in
theorem q2024 : Cond.methodLink "SealFacesModel" 461 ⟨"SealFacesModel", "off", "(II)I"⟩ ∈ ab_good := ab_mg sb_t8 233 rfl rfl
set_option maxRecDepth 20000 in
theorem q2025 : Cond.static ⟨"SealFacesModel", "off", "(II)I"⟩ ∈ ab_good := ab_mg sb_t8 234 rfl rfl
set_option maxRecDepth 20000 in
theorem q2026 : Cond.code ⟨"SealFacesModel", "off", "(II)I"⟩ prog_14_method_40_code 2 (some .int) ∈ ab_good := ab_mg sb_t8 235 rfl rfl
set_option maxRecDepth 20000 in
theorem q2027 : Cond.methodLink "SealFacesLaw" 120 ⟨"SealFacesModel", "like", "(I)I"⟩ ∈ ab_good := ab_mg sb_t8 236 rfl rfl
set_option maxRecDepth 20000 in
theorem q2028 : Cond.instanceMethod ⟨"SealFacesModel", "like", "(I)I"⟩ ∈ ab_good := ab_mg sb_t8 237 rfl rfl
set_option maxRecDepth 20000 in
theorem q2029 : Cond.selects "SealFacesModel" ⟨"SealFacesModel", "like", "(I)I"⟩ ⟨"SealFacesModel", "like", "(I)I"⟩ ∈ ab_good := ab_mg sb_t8 238 rfl rfl
set_option maxRecDepth 20000 in
theorem q2030 : Cond.code ⟨"SealFacesModel", "like", "(I)I"⟩ prog_14_method_105_code 6 (some .int) ∈ ab_good := ab_mg sb_t8 239 rfl rfl
set_option maxRecDepth 20000 in
theorem q2031 : Cond.methodLink "SealFacesLaw" 124 ⟨"SealFacesModel", "twins", "(II)I"⟩ ∈ ab_good := ab_mg sb_t9 0 rfl rfl
set_option maxRecDepth 20000 in
theorem q2032 : Cond.instanceMethod ⟨"SealFacesModel", "twins", "(II)I"⟩ ∈ ab_good := ab_mg sb_t9 1 rfl rfl
set_option maxRecDepth 20000 in
theorem q2033 : Cond.selects "SealFacesModel" ⟨"SealFacesModel", "twins", "(II)I"⟩ ⟨"SealFacesModel", "twins", "(II)I"⟩ ∈ ab_good := ab_mg sb_t9 2 rfl rfl
set_option maxRecDepth 20000 in
theorem q2034 : Cond.code ⟨"SealFacesModel", "twins", "(II)I"⟩ prog_14_method_106_code 8 (some .int) ∈ ab_good := ab_mg sb_t9 3 rfl rfl
set_option maxRecDepth 20000 in
theorem q2035 : Cond.methodLink "SealFacesLaw" 136 ⟨"SealFacesModel", "barest", "(I)I"⟩ ∈ ab_good := ab_mg sb_t9 4 rfl rfl
set_option maxRecDepth 20000 in
theorem q2036 : Cond.instanceMethod ⟨"SealFacesModel", "barest", "(I)I"⟩ ∈ ab_good := ab_mg sb_t9 5 rfl rfl
set_option maxRecDepth 20000 in
theorem q2037 : Cond.selects "SealFacesModel" ⟨"SealFacesModel", "barest", "(I)I"⟩ ⟨"SealFacesModel", "barest", "(I)I"⟩ ∈ ab_good := ab_mg sb_t9 6 rfl rfl
set_option maxRecDepth 20000 in
theorem q2038 : Cond.code ⟨"SealFacesModel", "barest", "(I)I"⟩ prog_14_method_108_code 4 (some .int) ∈ ab_good := ab_mg sb_t9 7 rfl rfl
set_option maxRecDepth 20000 in
theorem q2039 : Cond.methodLink "SealFacesModel" 467 ⟨"SealFacesModel", "levelSum", "(I)I"⟩ ∈ ab_good := ab_mg sb_t9 8 rfl rfl
set_option maxRecDepth 20000 in
theorem q2041 : Cond.instanceMethod ⟨"SealFacesModel", "levelSum", "(I)I"⟩ ∈ ab_good := ab_mg sb_t9 10 rfl rfl
set_option maxRecDepth 20000 in
theorem q2042 : Cond.code ⟨"SealFacesModel", "levelSum", "(I)I"⟩ prog_14_method_107_code 2 (some .int) ∈ ab_good := ab_mg sb_t9 11 rfl rfl
set_option maxRecDepth 20000 in
theorem q2043 : Cond.methodLink "SealFacesLaw" 128 ⟨"SealFacesModel", "heals", "(I)I"⟩ ∈ ab_good := ab_mg sb_t9 12 rfl rfl
set_option maxRecDepth 20000 in
theorem q2044 : Cond.instanceMethod ⟨"SealFacesModel", "heals", "(I)I"⟩ ∈ ab_good := ab_mg sb_t9 13 rfl rfl
set_option maxRecDepth 20000 in
theorem q2045 : Cond.selects "SealFacesModel" ⟨"SealFacesModel", "heals", "(I)I"⟩ ⟨"SealFacesModel", "heals", "(I)I"⟩ ∈ ab_good := ab_mg sb_t9 14 rfl rfl
set_option maxRecDepth 20000 in
theorem q2046 : Cond.code ⟨"SealFacesModel", "heals", "(I)I"⟩ prog_14_method_110_code 3 (some .int) ∈ ab_good := ab_mg sb_t9 15 rfl rfl
set_option maxRecDepth 20000 in
theorem q2047 : Cond.methodLink "SealFacesModel" 470 ⟨"SealFacesModel", "isHealed", "(I)Z"⟩ ∈ ab_good := ab_mg sb_t9 16 rfl rfl
set_option maxRecDepth 20000 in
theorem q2049 : Cond.instanceMethod ⟨"SealFacesModel", "isHealed", "(I)Z"⟩ ∈ ab_good := ab_mg sb_t9 18 rfl rfl
set_option maxRecDepth 20000 in
theorem q2050 : Cond.code ⟨"SealFacesModel", "isHealed", "(I)Z"⟩ prog_14_method_109_code 3 (some .boolean) ∈ ab_good := ab_mg sb_t9 19 rfl rfl
set_option maxRecDepth 20000 in
theorem q2051 : Cond.methodLink "SealFacesLaw" 132 ⟨"SealFacesModel", "blank", "(I)I"⟩ ∈ ab_good := ab_mg sb_t9 20 rfl rfl
set_option maxRecDepth 20000 in
theorem q2052 : Cond.instanceMethod ⟨"SealFacesModel", "blank", "(I)I"⟩ ∈ ab_good := ab_mg sb_t9 21 rfl rfl
set_option maxRecDepth 20000 in
theorem q2053 : Cond.selects "SealFacesModel" ⟨"SealFacesModel", "blank", "(I)I"⟩ ⟨"SealFacesModel", "blank", "(I)I"⟩ ∈ ab_good := ab_mg sb_t9 22 rfl rfl
set_option maxRecDepth 20000 in
theorem q2054 : Cond.code ⟨"SealFacesModel", "blank", "(I)I"⟩ prog_14_method_111_code 3 (some .int) ∈ ab_good := ab_mg sb_t9 23 rfl rfl
set_option maxRecDepth 20000 in
theorem q2055 : Cond.methodLink "SealFacesLaw" 140 ⟨"SealFacesModel", "reads", "(I)I"⟩ ∈ ab_good := ab_mg sb_t9 24 rfl rfl
set_option maxRecDepth 20000 in
theorem q2056 : Cond.instanceMethod ⟨"SealFacesModel", "reads", "(I)I"⟩ ∈ ab_good := ab_mg sb_t9 25 rfl rfl
set_option maxRecDepth 20000 in
theorem q2057 : Cond.selects "SealFacesModel" ⟨"SealFacesModel", "reads", "(I)I"⟩ ⟨"SealFacesModel", "reads", "(I)I"⟩ ∈ ab_good := ab_mg sb_t9 26 rfl rfl
set_option maxRecDepth 20000 in
theorem q2058 : Cond.code ⟨"SealFacesModel", "reads", "(I)I"⟩ prog_14_method_113_code 2 (some .int) ∈ ab_good := ab_mg sb_t9 27 rfl rfl
set_option maxRecDepth 20000 in
theorem q2059 : Cond.methodLink "SealFacesModel" 476 ⟨"SealFacesModel", "readsOf", "(I)I"⟩ ∈ ab_good := ab_mg sb_t9 28 rfl rfl
set_option maxRecDepth 20000 in
theorem q2061 : Cond.instanceMethod ⟨"SealFacesModel", "readsOf", "(I)I"⟩ ∈ ab_good := ab_mg sb_t9 30 rfl rfl
set_option maxRecDepth 20000 in
theorem q2062 : Cond.code ⟨"SealFacesModel", "readsOf", "(I)I"⟩ prog_14_method_112_code 3 (some .int) ∈ ab_good := ab_mg sb_t9 31 rfl rfl
set_option maxRecDepth 20000 in
theorem q2063 : Cond.methodLink "SealFacesModel" 473 ⟨"SealFacesModel", "lotOf", "(I)I"⟩ ∈ ab_good := ab_mg sb_t9 32 rfl rfl
set_option maxRecDepth 20000 in
theorem q2065 : Cond.instanceMethod ⟨"SealFacesModel", "lotOf", "(I)I"⟩ ∈ ab_good := ab_mg sb_t9 34 rfl rfl
set_option maxRecDepth 20000 in
theorem q2066 : Cond.code ⟨"SealFacesModel", "lotOf", "(I)I"⟩ prog_14_method_51_code 2 (some .int) ∈ ab_good := ab_mg sb_t9 35 rfl rfl
set_option maxRecDepth 20000 in
theorem q2067 : Cond.methodLink "SealFacesModel" 333 ⟨"SealFacesModel", "mixed", "(II)I"⟩ ∈ ab_good := ab_mg sb_t9 36 rfl rfl
set_option maxRecDepth 20000 in
theorem q2068 : Cond.static ⟨"SealFacesModel", "mixed", "(II)I"⟩ ∈ ab_good := ab_mg sb_t9 37 rfl rfl
set_option maxRecDepth 20000 in
theorem q2069 : Cond.code ⟨"SealFacesModel", "mixed", "(II)I"⟩ prog_14_method_50_code 3 (some .int) ∈ ab_good := ab_mg sb_t9 38 rfl rfl
set_option maxRecDepth 20000 in
theorem q2070 : Cond.constant "SealFacesModel" 332 (1103515245) ∈ ab_good := ab_mg sb_t9 39 rfl rfl
set_option maxRecDepth 20000 in
theorem q2071 : Cond.methodLink "SealFacesLaw" 144 ⟨"SealFacesModel", "levelIn", "(III)I"⟩ ∈ ab_good := ab_mg sb_t9 40 rfl rfl
set_option maxRecDepth 20000 in
theorem q2072 : Cond.instanceMethod ⟨"SealFacesModel", "levelIn", "(III)I"⟩ ∈ ab_good := ab_mg sb_t9 41 rfl rfl
set_option maxRecDepth 20000 in
theorem q2073 : Cond.selects "SealFacesModel" ⟨"SealFacesModel", "levelIn", "(III)I"⟩ ⟨"SealFacesModel", "levelIn", "(III)I"⟩ ∈ ab_good := ab_mg sb_t9 42 rfl rfl
set_option maxRecDepth 20000 in
theorem q2074 : Cond.code ⟨"SealFacesModel", "levelIn", "(III)I"⟩ prog_14_method_114_code 4 (some .int) ∈ ab_good := ab_mg sb_t9 43 rfl rfl
set_option maxRecDepth 20000 in
theorem q2075 : Cond.methodLink "SealFacesLaw" 148 ⟨"SealFacesModel", "printIn", "(III)I"⟩ ∈ ab_good := ab_mg sb_t9 44 rfl rfl
set_option maxRecDepth 20000 in
theorem q2076 : Cond.instanceMethod ⟨"SealFacesModel", "printIn", "(III)I"⟩ ∈ ab_good := ab_mg sb_t9 45 rfl rfl
set_option maxRecDepth 20000 in
theorem q2077 : Cond.selects "SealFacesModel" ⟨"SealFacesModel", "printIn", "(III)I"⟩ ⟨"SealFacesModel", "printIn", "(III)I"⟩ ∈ ab_good := ab_mg sb_t9 46 rfl rfl
set_option maxRecDepth 20000 in
theorem q2078 : Cond.code ⟨"SealFacesModel", "printIn", "(III)I"⟩ prog_14_method_115_code 4 (some .int) ∈ ab_good := ab_mg sb_t9 47 rfl rfl
set_option maxRecDepth 20000 in
theorem q2079 : Cond.methodLink "SealFacesLaw" 152 ⟨"SealFacesModel", "bindsIn", "(I)I"⟩ ∈ ab_good := ab_mg sb_t9 48 rfl rfl
set_option maxRecDepth 20000 in
theorem q2080 : Cond.instanceMethod ⟨"SealFacesModel", "bindsIn", "(I)I"⟩ ∈ ab_good := ab_mg sb_t9 49 rfl rfl
set_option maxRecDepth 20000 in
theorem q2081 : Cond.selects "SealFacesModel" ⟨"SealFacesModel", "bindsIn", "(I)I"⟩ ⟨"SealFacesModel", "bindsIn", "(I)I"⟩ ∈ ab_good := ab_mg sb_t9 50 rfl rfl
set_option maxRecDepth 20000 in
theorem q2082 : Cond.code ⟨"SealFacesModel", "bindsIn", "(I)I"⟩ prog_14_method_116_code 2 (some .int) ∈ ab_good := ab_mg sb_t9 51 rfl rfl
set_option maxRecDepth 20000 in
theorem q2083 : Cond.methodLink "SealFacesModel" 479 ⟨"SealFacesModel", "bindsAll", "()I"⟩ ∈ ab_good := ab_mg sb_t9 52 rfl rfl
set_option maxRecDepth 20000 in
theorem q2085 : Cond.instanceMethod ⟨"SealFacesModel", "bindsAll", "()I"⟩ ∈ ab_good := ab_mg sb_t9 54 rfl rfl
set_option maxRecDepth 20000 in
theorem q2086 : Cond.code ⟨"SealFacesModel", "bindsAll", "()I"⟩ prog_14_method_66_code 3 (some .int) ∈ ab_good := ab_mg sb_t9 55 rfl rfl
set_option maxRecDepth 20000 in
theorem q2087 : Cond.methodLink "SealFacesLaw" 156 ⟨"SealFacesModel", "year", "(II)I"⟩ ∈ ab_good := ab_mg sb_t9 56 rfl rfl
set_option maxRecDepth 20000 in
theorem q2088 : Cond.instanceMethod ⟨"SealFacesModel", "year", "(II)I"⟩ ∈ ab_good := ab_mg sb_t9 57 rfl rfl
set_option maxRecDepth 20000 in
theorem q2089 : Cond.selects "SealFacesModel" ⟨"SealFacesModel", "year", "(II)I"⟩ ⟨"SealFacesModel", "year", "(II)I"⟩ ∈ ab_good := ab_mg sb_t9 58 rfl rfl
set_option maxRecDepth 20000 in
theorem q2090 : Cond.code ⟨"SealFacesModel", "year", "(II)I"⟩ prog_14_method_117_code 5 (some .int) ∈ ab_good := ab_mg sb_t9 59 rfl rfl
set_option maxRecDepth 20000 in
theorem q2091 : Cond.methodLink "SealFacesLaw" 161 ⟨"SealFacesModel", "tell", "(IIZ)I"⟩ ∈ ab_good := ab_mg sb_t9 60 rfl rfl
set_option maxRecDepth 20000 in
theorem q2092 : Cond.instanceMethod ⟨"SealFacesModel", "tell", "(IIZ)I"⟩ ∈ ab_good := ab_mg sb_t9 61 rfl rfl
set_option maxRecDepth 20000 in
theorem q2093 : Cond.selects "SealFacesModel" ⟨"SealFacesModel", "tell", "(IIZ)I"⟩ ⟨"SealFacesModel", "tell", "(IIZ)I"⟩ ∈ ab_good := ab_mg sb_t9 62 rfl rfl
set_option maxRecDepth 20000 in
theorem q2094 : Cond.code ⟨"SealFacesModel", "tell", "(IIZ)I"⟩ prog_14_method_118_code 4 (some .int) ∈ ab_good := ab_mg sb_t9 63 rfl rfl
set_option maxRecDepth 20000 in
theorem q2095 : Cond.methodLink "SealFacesLaw" 165 ⟨"SealFacesModel", "forget", "()I"⟩ ∈ ab_good := ab_mg sb_t9 64 rfl rfl
set_option maxRecDepth 20000 in
theorem q2096 : Cond.instanceMethod ⟨"SealFacesModel", "forget", "()I"⟩ ∈ ab_good := ab_mg sb_t9 65 rfl rfl
set_option maxRecDepth 20000 in
theorem q2097 : Cond.selects "SealFacesModel" ⟨"SealFacesModel", "forget", "()I"⟩ ⟨"SealFacesModel", "forget", "()I"⟩ ∈ ab_good := ab_mg sb_t9 66 rfl rfl
set_option maxRecDepth 20000 in
theorem q2098 : Cond.code ⟨"SealFacesModel", "forget", "()I"⟩ prog_14_method_119_code 2 (some .int) ∈ ab_good := ab_mg sb_t9 67 rfl rfl
set_option maxRecDepth 20000 in
theorem q2099 : Cond.methodLink "SealFacesLaw" 169 ⟨"SealFacesModel", "who", "(III)I"⟩ ∈ ab_good := ab_mg sb_t9 68 rfl rfl
set_option maxRecDepth 20000 in
theorem q2100 : Cond.instanceMethod ⟨"SealFacesModel", "who", "(III)I"⟩ ∈ ab_good := ab_mg sb_t9 69 rfl rfl
set_option maxRecDepth 20000 in
theorem q2101 : Cond.selects "SealFacesModel" ⟨"SealFacesModel", "who", "(III)I"⟩ ⟨"SealFacesModel", "who", "(III)I"⟩ ∈ ab_good := ab_mg sb_t9 70 rfl rfl
set_option maxRecDepth 20000 in
theorem q2102 : Cond.code ⟨"SealFacesModel", "who", "(III)I"⟩ prog_14_method_122_code 5 (some .int) ∈ ab_good := ab_mg sb_t9 71 rfl rfl
set_option maxRecDepth 20000 in
theorem q2103 : Cond.methodLink "SealFacesModel" 485 ⟨"SealFacesModel", "whoBits", "(II)I"⟩ ∈ ab_good := ab_mg sb_t9 72 rfl rfl
set_option maxRecDepth 20000 in
theorem q2105 : Cond.instanceMethod ⟨"SealFacesModel", "whoBits", "(II)I"⟩ ∈ ab_good := ab_mg sb_t9 74 rfl rfl
set_option maxRecDepth 20000 in
theorem q2106 : Cond.code ⟨"SealFacesModel", "whoBits", "(II)I"⟩ prog_14_method_121_code 5 (some .int) ∈ ab_good := ab_mg sb_t9 75 rfl rfl
set_option maxRecDepth 20000 in
theorem q2107 : Cond.methodLink "SealFacesModel" 482 ⟨"SealFacesModel", "doesFit", "(III)Z"⟩ ∈ ab_good := ab_mg sb_t9 76 rfl rfl
set_option maxRecDepth 20000 in
theorem q2109 : Cond.instanceMethod ⟨"SealFacesModel", "doesFit", "(III)Z"⟩ ∈ ab_good := ab_mg sb_t9 78 rfl rfl
set_option maxRecDepth 20000 in
theorem q2110 : Cond.code ⟨"SealFacesModel", "doesFit", "(III)Z"⟩ prog_14_method_120_code 5 (some .boolean) ∈ ab_good := ab_mg sb_t9 79 rfl rfl
set_option maxRecDepth 20000 in
theorem q2111 : Cond.methodLink "SealFacesLaw" 173 ⟨"SealFacesModel", "look", "(III)I"⟩ ∈ ab_good := ab_mg sb_t9 80 rfl rfl
set_option maxRecDepth 20000 in
theorem q2112 : Cond.instanceMethod ⟨"SealFacesModel", "look", "(III)I"⟩ ∈ ab_good := ab_mg sb_t9 81 rfl rfl
set_option maxRecDepth 20000 in
theorem q2113 : Cond.selects "SealFacesModel" ⟨"SealFacesModel", "look", "(III)I"⟩ ⟨"SealFacesModel", "look", "(III)I"⟩ ∈ ab_good := ab_mg sb_t9 82 rfl rfl
set_option maxRecDepth 20000 in
theorem q2114 : Cond.code ⟨"SealFacesModel", "look", "(III)I"⟩ prog_14_method_123_code 10 (some .int) ∈ ab_good := ab_mg sb_t9 83 rfl rfl
set_option maxRecDepth 20000 in
theorem q2115 : Cond.methodLink "SealFacesLaw" 177 ⟨"SealFacesModel", "hold", "(I)Z"⟩ ∈ ab_good := ab_mg sb_t9 84 rfl rfl
set_option maxRecDepth 20000 in
theorem q2116 : Cond.instanceMethod ⟨"SealFacesModel", "hold", "(I)Z"⟩ ∈ ab_good := ab_mg sb_t9 85 rfl rfl
set_option maxRecDepth 20000 in
theorem q2117 : Cond.selects "SealFacesModel" ⟨"SealFacesModel", "hold", "(I)Z"⟩ ⟨"SealFacesModel", "hold", "(I)Z"⟩ ∈ ab_good := ab_mg sb_t9 86 rfl rfl
set_option maxRecDepth 20000 in
theorem q2118 : Cond.code ⟨"SealFacesModel", "hold", "(I)Z"⟩ prog_14_method_124_code 3 (some .boolean) ∈ ab_good := ab_mg sb_t9 87 rfl rfl
set_option maxRecDepth 20000 in
theorem q2119 : Cond.methodLink "SealFacesLaw" 181 ⟨"SealFacesModel", "restore", "(I)Z"⟩ ∈ ab_good := ab_mg sb_t9 88 rfl rfl
set_option maxRecDepth 20000 in
theorem q2120 : Cond.instanceMethod ⟨"SealFacesModel", "restore", "(I)Z"⟩ ∈ ab_good := ab_mg sb_t9 89 rfl rfl
set_option maxRecDepth 20000 in
theorem q2121 : Cond.selects "SealFacesModel" ⟨"SealFacesModel", "restore", "(I)Z"⟩ ⟨"SealFacesModel", "restore", "(I)Z"⟩ ∈ ab_good := ab_mg sb_t9 90 rfl rfl
set_option maxRecDepth 20000 in
theorem q2122 : Cond.code ⟨"SealFacesModel", "restore", "(I)Z"⟩ prog_14_method_125_code 3 (some .boolean) ∈ ab_good := ab_mg sb_t9 91 rfl rfl
set_option maxRecDepth 20000 in
theorem q2123 : Cond.methodLink "SealFacesLaw" 185 ⟨"SealFacesModel", "count", "(I)I"⟩ ∈ ab_good := ab_mg sb_t9 92 rfl rfl
set_option maxRecDepth 20000 in
theorem q2124 : Cond.instanceMethod ⟨"SealFacesModel", "count", "(I)I"⟩ ∈ ab_good := ab_mg sb_t9 93 rfl rfl
set_option maxRecDepth 20000 in
theorem q2125 : Cond.selects "SealFacesModel" ⟨"SealFacesModel", "count", "(I)I"⟩ ⟨"SealFacesModel", "count", "(I)I"⟩ ∈ ab_good := ab_mg sb_t9 94 rfl rfl
set_option maxRecDepth 20000 in
theorem q2126 : Cond.code ⟨"SealFacesModel", "count", "(I)I"⟩ prog_14_method_128_code 4 (some .int) ∈ ab_good := ab_mg sb_t9 95 rfl rfl
set_option maxRecDepth 20000 in
theorem q2127 : Cond.methodLink "SealFacesModel" 488 ⟨"SealFacesModel", "inState", "(I)I"⟩ ∈ ab_good := ab_mg sb_t9 96 rfl rfl
set_option maxRecDepth 20000 in
theorem q2129 : Cond.instanceMethod ⟨"SealFacesModel", "inState", "(I)I"⟩ ∈ ab_good := ab_mg sb_t9 98 rfl rfl
set_option maxRecDepth 20000 in
theorem q2130 : Cond.code ⟨"SealFacesModel", "inState", "(I)I"⟩ prog_14_method_127_code 4 (some .int) ∈ ab_good := ab_mg sb_t9 99 rfl rfl
set_option maxRecDepth 20000 in
theorem q2131 : Cond.methodLink "SealFacesModel" 491 ⟨"SealFacesModel", "sumNow", "(II)I"⟩ ∈ ab_good := ab_mg sb_t9 100 rfl rfl
set_option maxRecDepth 20000 in
theorem q2133 : Cond.instanceMethod ⟨"SealFacesModel", "sumNow", "(II)I"⟩ ∈ ab_good := ab_mg sb_t9 102 rfl rfl
set_option maxRecDepth 20000 in
theorem q2134 : Cond.code ⟨"SealFacesModel", "sumNow", "(II)I"⟩ prog_14_method_126_code 5 (some .int) ∈ ab_good := ab_mg sb_t9 103 rfl rfl
set_option maxRecDepth 20000 in
theorem q2135 : Cond.fieldLink "java/lang/String" 9 "java/lang/String" "value" "[B" ∈ ab_good := ab_mg sb_t9 104 rfl rfl
set_option maxRecDepth 20000 in
theorem q2136 : Cond.fieldLink "java/lang/String" 15 "java/lang/String" "coder" "B" ∈ ab_good := ab_mg sb_t9 105 rfl rfl
