/-! a year goes by -/
theorem nsV_e {s s' : Nat → Nat → Int32} {nd : Nat} (hn6 : nd ≤ 6) (h : ∀ k, k < 6 → s' 11 (33 + k) = s 11 (33 + k)) (c : Nat) : nsV s' nd c = nsV s nd c := by
  unfold nsV
  rw [bitsN_cg (q := fun k => decide (s 11 (33 + k) = nI c)) (fun k hk => by rw [h k (by omega)])]
theorem levA_e {s s' : Nat → Nat → Int32} {nd c f : Nat} (PG : List (List Ins)) (hn6 : nd ≤ 6) (h : ∀ k, k < 6 → s' 11 (33 + k) = s 11 (33 + k)) (h0 : s' 11 (3 * c + f) = s 11 (3 * c + f)) (h9 : s' 11 39 = s 11 39) (h7 : s' 17 (3 * c + f) = s 17 (3 * c + f)) (h6 : s' 16 c = s 16 c) : ∀ k, levA s' PG nd c f k = levA s PG nd c f k
  | 0 => h0
  | k + 1 => by rw [levA, levA, levA_e PG hn6 h h0 h9 h7 h6 k, grV, grV, nsV_e hn6 h, h9, h7, h6]
theorem prtA_e {s s' : Nat → Nat → Int32} {e f : Nat} (PF : List (List Ins)) (h0 : s' 11 (15 + 3 * e + f) = s 11 (15 + 3 * e + f)) (h9 : s' 11 39 = s 11 39) (h7 : s' 20 (3 * e + f) = s 20 (3 * e + f)) (h6 : s' 19 e = s 19 e) : ∀ k, prtA s' PF e f k = prtA s PF e f k
  | 0 => h0
  | k + 1 => by rw [prtA, prtA, prtA_e PF h0 h9 h7 h6 k, fdV, fdV, h9, h7, h6]
theorem fillR_z (r : Nat → Int32) (k : Nat) (g : Nat → Int32) : upd (fillR r 0 k g) k (g k) = fillR r 0 (k + 1) g := by
  have h := fillR_s r 0 k g
  rwa [Nat.zero_add] at h
def yrL (s : Nat → Nat → Int32) (PG : List (List Ins)) (nd : Nat) (j : Nat) : Int32 := levA s PG nd (j / 3) (j % 3) 1
def yrP (s : Nat → Nat → Int32) (PF : List (List Ins)) (j : Nat) : Int32 := prtA s PF (j / 3) (j % 3) 1
theorem yrL_at (s : Nat → Nat → Int32) (PG : List (List Ins)) (nd c f : Nat) (hf : f < 3) : yrL s PG nd (3 * c + f) = levA s PG nd c f 1 := by
  unfold yrL
  rw [show (3 * c + f) / 3 = c by omega, show (3 * c + f) % 3 = f by omega]
theorem yrP_at (s : Nat → Nat → Int32) (PF : List (List Ins)) (c f : Nat) (hf : f < 3) : yrP s PF (3 * c + f) = prtA s PF c f 1 := by
  unfold yrP
  rw [show (3 * c + f) / 3 = c by omega, show (3 * c + f) % 3 = f by omega]
def yrR (s : Nat → Nat → Int32) (PG PF : List (List Ins)) (nc nd : Nat) : Nat → Int32 := upd (fillR (fillR (s 11) 0 (3 * nc) (yrL s PG nd)) 15 (3 * nd) (yrP s PF)) 39 (s 11 39 + 1)
section
variable (d : Nat) (fm : Value) (X : Nat × (Nat → Int32)) (s : Nat → Nat → Int32) (t : Nat → Nat → Int64)
theorem t_Ha_passYear {PG PF : List (List Ins)} (hG : CLaw s 26 PG) (hF : CLaw s 34 PF) {nc nd : Nat} (hnc : s 14 11 = nI nc) (hc5 : nc ≤ 5) (hn : s 14 12 = nI nd) (hn6 : nd ≤ 6) : ab_T g_Ha_passYear (d + 5) (0, 0) [.ref 9] (HA fm X s t) (PS fm X s t (yrR s PG PF nc nd) (3 * nc + 3 * nd + 1)) := by
  refine ab_T_of (M := m_Ha_passYear) rfl rfl (Nat.le_of_ble_eq_true rfl) ?_
  show ab_Z m_Ha_passYear _ _ _ 0 [_, _, _] [] _
  refine ab_go ok_Ha_passYear 2 rfl ?_
  show ab_Z m_Ha_passYear _ _ _ 2 [_, _, _] [] _
  refine lp_dn nc (fun c => ∀ s1, Sn s s1 (fillR (s 11) 0 (3 * c) (yrL s PG nd)) (3 * c) → ab_Z m_Ha_passYear (d + 5) (0, 0) (PS fm X s t (yrR s PG PF nc nd) (3 * nc + 3 * nd + 1)) 2 [some (.ref 9), some (.int (nI c)), none] [] (HA fm X s1 t)) ?_ ?_ s (by rw [Nat.mul_zero, fillR_0]; exact Sn.rf s)
  · intro s1 hs
    refine ab_go ok_Ha_passYear 4 rfl ?_
    show ab_Z m_Ha_passYear _ _ _ 6 [_, _, _] [_, _] _
    refine ab_br ok_Ha_passYear rfl rfl ?_ ?_
    · intro h1
      show ab_Z m_Ha_passYear _ _ _ 26 [_, _, _] [] _
      refine ab_go ok_Ha_passYear 2 rfl ?_
      show ab_Z m_Ha_passYear _ _ _ 28 [_, _, _] [] _
      refine lp_dn nd (fun e => ∀ s1, Sn s s1 (fillR (fillR (s 11) 0 (3 * nc) (yrL s PG nd)) 15 (3 * e) (yrP s PF)) (3 * nc + 3 * e) → ab_Z m_Ha_passYear (d + 5) (0, 0) (PS fm X s t (yrR s PG PF nc nd) (3 * nc + 3 * nd + 1)) 28 [some (.ref 9), some (.int (nI e)), none] [] (HA fm X s1 t)) ?_ ?_ s1 (by rw [Nat.mul_zero, fillR_0]; exact hs)
      · intro s1 hs
        refine ab_go ok_Ha_passYear 4 rfl ?_
        show ab_Z m_Ha_passYear _ _ _ 32 [_, _, _] [_, _] _
        refine ab_br ok_Ha_passYear rfl rfl ?_ ?_
        · intro h2
          show ab_Z m_Ha_passYear _ _ _ 52 [_, _, _] [] _
          refine ab_go ok_Ha_passYear 4 rfl ?_
          show ab_Z m_Ha_passYear _ _ _ 56 [_, _, _] [_, _] _
          refine ab_cl ok_Ha_passYear rfl [_] [_] rfl ⟨_, _, rfl, rfl, Or.inl ⟨_, _, rfl, rfl⟩⟩ (Nat.le_of_ble_eq_true rfl) (t_Sc_yearNow (d + 4) fm X s1 t) ?_
          rintro _ _ ⟨rfl, rfl⟩
          show ab_Z m_Ha_passYear _ _ _ 57 [_, _, _] [_, _] _
          refine ab_go ok_Ha_passYear 2 rfl ?_
          show ab_Z m_Ha_passYear _ _ _ 59 [_, _, _] [_, _] _
          refine ab_cl ok_Ha_passYear rfl [_, _] [] rfl ⟨_, _, rfl, rfl, Or.inl ⟨_, _, rfl, rfl⟩⟩ (Nat.le_of_ble_eq_true rfl) (t_Sc_setYear (d + 4) fm X s1 t _) ?_
          rintro _ _ ⟨rfl, rfl⟩
          show ab_Z m_Ha_passYear _ _ _ 60 [_, _, _] [] _
          exact ab_rV ok_Ha_passYear rfl (⟨rfl, _, rfl, by have h9 := hs.up (j := 39) (v := s1 11 39 + 1); rw [show s1 11 39 = s 11 39 from by rw [hs.1, fillR_o (by omega), fillR_o (by omega)]] at h9 ⊢; exact h9⟩)
        · intro h2
          show ab_Z m_Ha_passYear _ _ _ 33 [_, _, _] [] _
          rw [hs.2.2 14 12 rfl (by decide) (by decide) (by decide), hn] at h2
          exact absurd (lp_out nd) h2
      · intro e he ih s1 hs
        refine ab_go ok_Ha_passYear 4 rfl ?_
        show ab_Z m_Ha_passYear _ _ _ 32 [_, _, _] [_, _] _
        refine ab_br ok_Ha_passYear rfl rfl ?_ ?_
        · intro h2
          show ab_Z m_Ha_passYear _ _ _ 52 [_, _, _] [] _
          rw [hs.2.2 14 12 rfl (by decide) (by decide) (by decide), hn] at h2
          exact absurd h2 (lp_in (by omega) he)
        · intro h2
          show ab_Z m_Ha_passYear _ _ _ 33 [_, _, _] [] _
          refine ab_go ok_Ha_passYear 2 rfl ?_
          show ab_Z m_Ha_passYear _ _ _ 35 [_, _, _] [] _
          refine lp_dn 3 (fun f => ∀ s1, Sn s s1 (fillR (fillR (s 11) 0 (3 * nc) (yrL s PG nd)) 15 (3 * e + f) (yrP s PF)) (3 * nc + 3 * e + f) → ab_Z m_Ha_passYear (d + 5) (0, 0) (PS fm X s t (yrR s PG PF nc nd) (3 * nc + 3 * nd + 1)) 35 [some (.ref 9), some (.int (nI e)), some (.int (nI f))] [] (HA fm X s1 t)) ?_ ?_ s1 (by exact hs)
          · intro s1 hs
            refine ab_go ok_Ha_passYear 2 rfl ?_
            show ab_Z m_Ha_passYear _ _ _ 37 [_, _, _] [_, _] _
            refine ab_go ok_Ha_passYear 1 rfl ?_
            show ab_Z m_Ha_passYear _ _ _ 50 [_, _, _] [] _
            refine ab_go ok_Ha_passYear 2 rfl ?_
            show ab_Z m_Ha_passYear _ _ _ 28 [_, _, _] [] _
            have ih2 := ih s1 (by rw [show 3 * (e + 1) = 3 * e + 3 by omega]; exact hs)
            rw [nI_succ] at ih2
            exact ih2
          · intro f hf ih3 s1 hs
            refine ab_go ok_Ha_passYear 2 rfl ?_
            show ab_Z m_Ha_passYear _ _ _ 37 [_, _, _] [_, _] _
            refine ab_br ok_Ha_passYear rfl rfl ?_ ?_
            · intro h1
              show ab_Z m_Ha_passYear _ _ _ 50 [_, _, _] [] _
              exact absurd h1 (lp_in (N := 3) (by decide) hf)
            · intro h1
              show ab_Z m_Ha_passYear _ _ _ 38 [_, _, _] [] _
              refine ab_go ok_Ha_passYear 8 rfl ?_
              show ab_Z m_Ha_passYear _ _ _ 46 [_, _, _] [_, _, _, _, _, _, _] _
              have hq := t_Ha_printAfter d fm X s1 t (CLaw_k3 (by simp) hs.2.2 hF) (show e < 6 by omega) hf (n := 1) (by decide)
              rw [show nI 1 = 1 from rfl] at hq
              refine ab_cl ok_Ha_passYear rfl [_, _, _, _] [_, _, _] rfl ⟨_, _, rfl, rfl, Or.inl ⟨_, _, rfl, rfl⟩⟩ (Nat.le_of_ble_eq_true rfl) (hq) ?_
              rintro _ _ ⟨rfl, s2, rfl, hk⟩
              show ab_Z m_Ha_passYear _ _ _ 47 [_, _, _] [_, _, _, _] _
              rw [prtA_e PF (by rw [hs.1, fillR_o (by omega), fillR_o (by omega)]) (by rw [hs.1, fillR_o (by omega), fillR_o (by omega)]) (hs.2.2 20 _ rfl (by decide) (by decide) (by omega)) (hs.2.2 19 _ rfl (by decide) (by decide) (by omega)) 1]
              refine ab_cl ok_Ha_passYear rfl [_, _, _, _] [] rfl ⟨_, _, rfl, rfl, Or.inl ⟨_, _, rfl, rfl⟩⟩ (Nat.le_of_ble_eq_true rfl) (t_Sc_setPrint (d + 3) fm X s2 t _ (show e < 6 by omega) hf) ?_
              rintro _ _ ⟨rfl, rfl⟩
              show ab_Z m_Ha_passYear _ _ _ 48 [_, _, _] [] _
              refine ab_go ok_Ha_passYear 2 rfl ?_
              show ab_Z m_Ha_passYear _ _ _ 35 [_, _, _] [] _
              have ih2 := ih3 _ (by have h9 := (hs.k2 hk.to2).up (j := 15 + (3 * e + f)) (v := prtA s PF e f 1); rw [← yrP_at s PF e f hf, fillR_s _ 15 (3 * e + f) (yrP s PF)] at h9; exact h9)
              rw [nI_succ, yrP_at s PF e f hf, ← Nat.add_assoc] at ih2
              exact ih2
    · intro h1
      show ab_Z m_Ha_passYear _ _ _ 7 [_, _, _] [] _
      rw [hs.2.2 14 11 rfl (by decide) (by decide) (by decide), hnc] at h1
      exact absurd (lp_out nc) h1
  · intro c hc ih s1 hs
    refine ab_go ok_Ha_passYear 4 rfl ?_
    show ab_Z m_Ha_passYear _ _ _ 6 [_, _, _] [_, _] _
    refine ab_br ok_Ha_passYear rfl rfl ?_ ?_
    · intro h1
      show ab_Z m_Ha_passYear _ _ _ 26 [_, _, _] [] _
      rw [hs.2.2 14 11 rfl (by decide) (by decide) (by decide), hnc] at h1
      exact absurd h1 (lp_in (by omega) hc)
    · intro h1
      show ab_Z m_Ha_passYear _ _ _ 7 [_, _, _] [] _
      refine ab_go ok_Ha_passYear 2 rfl ?_
      show ab_Z m_Ha_passYear _ _ _ 9 [_, _, _] [] _
      refine lp_dn 3 (fun f => ∀ s1, Sn s s1 (fillR (s 11) 0 (3 * c + f) (yrL s PG nd)) (3 * c + f) → ab_Z m_Ha_passYear (d + 5) (0, 0) (PS fm X s t (yrR s PG PF nc nd) (3 * nc + 3 * nd + 1)) 9 [some (.ref 9), some (.int (nI c)), some (.int (nI f))] [] (HA fm X s1 t)) ?_ ?_ s1 (by exact hs)
      · intro s1 hs
        refine ab_go ok_Ha_passYear 2 rfl ?_
        show ab_Z m_Ha_passYear _ _ _ 11 [_, _, _] [_, _] _
        refine ab_go ok_Ha_passYear 1 rfl ?_
        show ab_Z m_Ha_passYear _ _ _ 24 [_, _, _] [] _
        refine ab_go ok_Ha_passYear 2 rfl ?_
        show ab_Z m_Ha_passYear _ _ _ 2 [_, _, _] [] _
        have ih2 := ih s1 (by rw [show 3 * (c + 1) = 3 * c + 3 by omega]; exact hs)
        rw [nI_succ] at ih2
        exact ih2
      · intro f hf ih3 s1 hs
        refine ab_go ok_Ha_passYear 2 rfl ?_
        show ab_Z m_Ha_passYear _ _ _ 11 [_, _, _] [_, _] _
        refine ab_br ok_Ha_passYear rfl rfl ?_ ?_
        · intro h1
          show ab_Z m_Ha_passYear _ _ _ 24 [_, _, _] [] _
          exact absurd h1 (lp_in (N := 3) (by decide) hf)
        · intro h1
          show ab_Z m_Ha_passYear _ _ _ 12 [_, _, _] [] _
          refine ab_go ok_Ha_passYear 8 rfl ?_
          show ab_Z m_Ha_passYear _ _ _ 20 [_, _, _] [_, _, _, _, _, _, _] _
          have hq := t_Ha_levelAfter d fm X s1 t (CLaw_k3 (by simp) hs.2.2 hG) ((hs.2.2 14 12 rfl (by decide) (by decide) (by decide)).trans hn) hn6 (show c < 5 by omega) hf (n := 1) (by decide)
          rw [show nI 1 = 1 from rfl] at hq
          refine ab_cl ok_Ha_passYear rfl [_, _, _, _] [_, _, _] rfl ⟨_, _, rfl, rfl, Or.inl ⟨_, _, rfl, rfl⟩⟩ (Nat.le_of_ble_eq_true rfl) (hq) ?_
          rintro _ _ ⟨rfl, s2, rfl, hk⟩
          show ab_Z m_Ha_passYear _ _ _ 21 [_, _, _] [_, _, _, _] _
          rw [levA_e PG hn6 (fun k hk => by rw [hs.1, fillR_o (by omega)]) (by rw [hs.1, fillR_o (by omega)]) (by rw [hs.1, fillR_o (by omega)]) (hs.2.2 17 _ rfl (by decide) (by decide) (by omega)) (hs.2.2 16 _ rfl (by decide) (by decide) (by omega)) 1]
          refine ab_cl ok_Ha_passYear rfl [_, _, _, _] [] rfl ⟨_, _, rfl, rfl, Or.inl ⟨_, _, rfl, rfl⟩⟩ (Nat.le_of_ble_eq_true rfl) (t_Sc_setLevel (d + 3) fm X s2 t _ (show c < 5 by omega) hf) ?_
          rintro _ _ ⟨rfl, rfl⟩
          show ab_Z m_Ha_passYear _ _ _ 22 [_, _, _] [] _
          refine ab_go ok_Ha_passYear 2 rfl ?_
          show ab_Z m_Ha_passYear _ _ _ 9 [_, _, _] [] _
          have ih2 := ih3 _ (by have h9 := (hs.k2 hk.to2).up (j := 3 * c + f) (v := levA s PG nd c f 1); rw [← yrL_at s PG nd c f hf, fillR_z _ (3 * c + f) (yrL s PG nd)] at h9; exact h9)
          rw [nI_succ, yrL_at s PG nd c f hf] at ih2
          exact ih2
end

