/-! years -/
theorem yrR_cg {s s' : Nat → Nat → Int32} (PG PF : List (List Ins)) {nc nd : Nat} (hn6 : nd ≤ 6) (h11 : s' 11 = s 11) (h16 : s' 16 = s 16) (h17 : s' 17 = s 17) (h19 : s' 19 = s 19) (h20 : s' 20 = s 20) : yrR s' PG PF nc nd = yrR s PG PF nc nd := by
  unfold yrR
  rw [h11, show yrL s' PG nd = yrL s PG nd from funext fun j => levA_e PG hn6 (fun k _ => by rw [h11]) (by rw [h11]) (by rw [h11]) (by rw [h17]) (by rw [h16]) 1, show yrP s' PF = yrP s PF from funext fun j => prtA_e PF (by rw [h11]) (by rw [h11]) (by rw [h20]) (by rw [h19]) 1]
def rowN (s : Nat → Nat → Int32) (PG PF : List (List Ins)) (nc nd : Nat) : Nat → Nat → Int32
  | 0 => s 11
  | k + 1 => yrR (ab_ro s 11 (rowN s PG PF nc nd k)) PG PF nc nd
theorem yrR_l {s : Nat → Nat → Int32} {PG PF : List (List Ins)} {nc nd c f : Nat} (hc : c < nc) (hc5 : nc ≤ 5) (hf : f < 3) : yrR s PG PF nc nd (3 * c + f) = levA s PG nd c f 1 := by
  unfold yrR upd
  rw [if_neg (by omega), fillR_o (by omega)]
  have := fillR_i (r := s 11) (a := 0) (k := 3 * nc) (j := 3 * c + f) (g := yrL s PG nd) (by omega)
  rw [Nat.zero_add] at this
  rw [this, yrL_at s PG nd c f hf]
theorem yrR_p {s : Nat → Nat → Int32} {PG PF : List (List Ins)} {nc nd e f : Nat} (he : e < nd) (hn6 : nd ≤ 6) (hf : f < 3) : yrR s PG PF nc nd (15 + 3 * e + f) = prtA s PF e f 1 := by
  unfold yrR upd
  rw [if_neg (by omega), Nat.add_assoc, fillR_i (by omega), yrP_at s PF e f hf]
theorem yrR_s {s : Nat → Nat → Int32} {PG PF : List (List Ins)} {nc nd j : Nat} (hc5 : nc ≤ 5) (hn6 : nd ≤ 6) (h1 : 33 ≤ j) (h2 : j ≠ 39) : yrR s PG PF nc nd j = s 11 j := by
  unfold yrR upd
  rw [if_neg h2, fillR_o (by omega), fillR_o (by omega)]
theorem yrR_y {s : Nat → Nat → Int32} {PG PF : List (List Ins)} {nc nd : Nat} : yrR s PG PF nc nd 39 = s 11 39 + 1 := by
  unfold yrR upd
  rw [if_pos rfl]
theorem rowN_spec (s : Nat → Nat → Int32) (PG PF : List (List Ins)) {nc nd : Nat} (hc5 : nc ≤ 5) (hn6 : nd ≤ 6) : ∀ k, (∀ j, 33 ≤ j → j ≠ 39 → rowN s PG PF nc nd k j = s 11 j) ∧ rowN s PG PF nc nd k 39 = s 11 39 + nI k ∧ (∀ c f, c < nc → f < 3 → rowN s PG PF nc nd k (3 * c + f) = levA s PG nd c f k) ∧ ∀ e f, e < nd → f < 3 → rowN s PG PF nc nd k (15 + 3 * e + f) = prtA s PF e f k
  | 0 => ⟨fun _ _ _ => rfl, by rw [nI_0, Int32.add_zero]; rfl, fun _ _ _ _ => rfl, fun _ _ _ _ => rfl⟩
  | k + 1 => by
    obtain ⟨h1, h2, h3, h4⟩ := rowN_spec s PG PF hc5 hn6 k
    have ea : ∀ j, ab_ro s 11 (rowN s PG PF nc nd k) 11 j = rowN s PG PF nc nd k j := fun j => by rw [ab_ro_c]
    have eo : ∀ c, c ≠ 11 → ab_ro s 11 (rowN s PG PF nc nd k) c = s c := fun c hc => ab_ro_o hc
    refine ⟨fun j a b => ?_, ?_, fun c f hc hf => ?_, fun e f he hf => ?_⟩
    · rw [rowN, yrR_s hc5 hn6 a b, ea]; exact h1 j a b
    · rw [rowN, yrR_y, ea, h2, nI_succ, Int32.add_assoc]
    · rw [rowN, yrR_l hc hc5 hf, levA, levA, levA, grV, grV, ea, ea, h2, h3 c f hc hf, nI_0, Int32.add_zero, nsV_e hn6 (fun j hj => by rw [ea]; exact h1 _ (by omega) (by omega)), eo 17 (by decide), eo 16 (by decide)]
    · rw [rowN, yrR_p he hn6 hf, prtA, prtA, prtA, fdV, fdV, ea, ea, h2, h4 e f he hf, nI_0, Int32.add_zero, eo 20 (by decide), eo 19 (by decide)]
theorem Sn.tr {a b c : Nat → Nat → Int32} {r r' : Nat → Int32} {n n' : Nat} (h : Sn a b r n) (g : Sn b c r' n') : Sn a c r' (n + n') := by
  refine ⟨g.1, ?_, fun x k p q u v => (g.2.2 x k p q u v).trans (h.2.2 x k p q u v)⟩
  rw [g.2.1, h.2.1, Int32.add_assoc, nI_add]
section
variable (d : Nat) (fm : Value) (X : Nat × (Nat → Int32)) (s : Nat → Nat → Int32) (t : Nat → Nat → Int64)
variable {nc nd nt : Nat} {PT PG PB PF : List (List Ins)}
theorem t_SF_years (hC : CI s nc nd nt PT PG PB PF) {w m : Nat} (hw : s 38 3 = nI w) (hw4 : w < 40) (hm : s 38 4 = nI m) (hm4 : m ≤ 40) (x : Int32) : ab_T g_SF_years (d + 6) (0, 0) [.ref 0, .int x] (HA fm X s t) (fun v h => v = some (.int (if inR 41 x then s 11 39 + x else -1)) ∧ ∃ s', h = HA fm X s' t ∧ (inR 41 x ∧ 0 < x.toInt → Mm s s' w m (rowN s PG PF nc nd x.toNatClampNeg) (x.toNatClampNeg * (3 * nc + 3 * nd + 1))) ∧ (¬ (inR 41 x ∧ 0 < x.toInt) → Kp2 s s')) := by
  have h5 : nc ≤ 5 := hC.1.2.1
  have h6 : nd ≤ 6 := hC.1.2.2.2.1
  refine ab_T_of (M := m_SF_years) rfl rfl (Nat.le_of_ble_eq_true rfl) ?_
  show ab_Z m_SF_years _ _ _ 0 [_, _, _] [] _
  refine ab_go ok_SF_years 1 rfl ?_
  show ab_Z m_SF_years _ _ _ 1 [_, _, _] [_] _
  refine ab_br ok_SF_years rfl rfl ?_ ?_
  · intro h1
    show ab_Z m_SF_years _ _ _ 5 [_, _, _] [] _
    refine ab_go ok_SF_years 1 rfl ?_
    show ab_Z m_SF_years _ _ _ 6 [_, _, _] [_] _
    have h3 : ¬ inR 41 x := fun q => by have := i_neg h1; have := q.1; omega
    exact ab_rI ok_SF_years rfl (⟨by rw [if_neg h3], s, rfl, fun q => absurd q.1 h3, fun _ => Kp2.rf s⟩)
  · intro h1
    show ab_Z m_SF_years _ _ _ 2 [_, _, _] [] _
    refine ab_go ok_SF_years 2 rfl ?_
    show ab_Z m_SF_years _ _ _ 4 [_, _, _] [_, _] _
    refine ab_br ok_SF_years rfl rfl ?_ ?_
    · intro h2
      show ab_Z m_SF_years _ _ _ 7 [_, _, _] [] _
      have h3 : inR 41 x := ⟨i_nn h1, by have := i_leR (z := 40) rfl h2; omega⟩
      clear h1 h2
      obtain ⟨n, hn, rfl⟩ := inR_nat h3
      rw [if_pos h3, nI_c (by omega), nI_t (by omega)]
      have lp : ∀ (b : Nat → Nat → Int32) (Po : Option Value → ab_H → Prop), (∀ c k, c ≠ 38 → c ≠ 39 → b c k = s c k) → (∀ s2, Sn b s2 (rowN s PG PF nc nd n) (n * (3 * nc + 3 * nd + 1)) → Po (some (.int (s 11 39 + nI n))) (HA fm X s2 t)) → ab_Z m_SF_years (d + 6) (0, 0) Po 17 [some (.ref 0), some (.int (nI n)), some (.int 0)] [] (HA fm X b t) := by
        intro b Po hb hPo
        have hbr : ∀ c, c ≠ 38 → c ≠ 39 → b c = s c := fun c a e => funext fun k => hb c k a e
        refine lp_dn n (fun k => ∀ s2, Sn b s2 (rowN s PG PF nc nd k) (k * (3 * nc + 3 * nd + 1)) → ab_Z m_SF_years (d + 6) (0, 0) Po 17 [some (.ref 0), some (.int (nI n)), some (.int (nI k))] [] (HA fm X s2 t)) ?_ ?_ b (by rw [Nat.zero_mul, rowN, ← hbr 11 (by decide) (by decide)]; exact Sn.rf b)
        · intro s2 hs
          refine ab_go ok_SF_years 2 rfl ?_
          show ab_Z m_SF_years _ _ _ 19 [_, _, _] [_, _] _
          refine ab_br ok_SF_years rfl rfl ?_ ?_
          · intro h1
            show ab_Z m_SF_years _ _ _ 25 [_, _, _] [] _
            refine ab_go ok_SF_years 3 rfl ?_
            show ab_Z m_SF_years _ _ _ 28 [_, _, _] [_] _
            refine ab_cl ok_SF_years rfl [_] [] rfl ⟨_, _, rfl, rfl, Or.inl ⟨_, _, rfl, rfl⟩⟩ (Nat.le_of_ble_eq_true rfl) (t_Sc_yearNow (d + 5) fm X s2 t) ?_
            rintro _ _ ⟨rfl, rfl⟩
            show ab_Z m_SF_years _ _ _ 29 [_, _, _] [_] _
            rw [hs.1, (rowN_spec s PG PF h5 h6 n).2.1]
            exact ab_rI ok_SF_years rfl (hPo s2 hs)
          · intro h1
            show ab_Z m_SF_years _ _ _ 20 [_, _, _] [] _
            exact absurd (lp_out n) h1
        · intro k hk ih s2 hs
          refine ab_go ok_SF_years 2 rfl ?_
          show ab_Z m_SF_years _ _ _ 19 [_, _, _] [_, _] _
          refine ab_br ok_SF_years rfl rfl ?_ ?_
          · intro h1
            show ab_Z m_SF_years _ _ _ 25 [_, _, _] [] _
            exact absurd h1 (lp_in (by omega) hk)
          · intro h1
            show ab_Z m_SF_years _ _ _ 20 [_, _, _] [] _
            refine ab_go ok_SF_years 2 rfl ?_
            show ab_Z m_SF_years _ _ _ 22 [_, _, _] [_] _
            have q : ∀ c k, scr1 c k = false → c ≠ 13 → c ≠ 11 → c ≠ 10 → c ≠ 38 → c ≠ 39 → s2 c k = s c k := fun c k a e f g i j => (hs.2.2 c k a e f (fun z => g z.1)).trans (hb c k i j)
            have kp : Kp3 s b → True := fun _ => trivial
            have cl : ∀ {p : Nat} {P : List (List Ins)}, (p = 22 ∨ p = 26 ∨ p = 30 ∨ p = 34) → CLaw s p P → CLaw s2 p P := by
              intro p P hp hL
              refine CLaw_k3 hp hs.2.2 ?_
              obtain ⟨l1, l2, l3, l4, l5, l6, l7⟩ := hL
              refine ⟨?_, l2, l3, l4, fun i hi => ?_, fun i Q hQ j q hq => ?_, l7⟩
              · rw [hb p 4 (by omega) (by omega)]; exact l1
              · rw [hb (p + 2) i (by omega) (by omega)]; exact l5 i hi
              · rw [hb (p + 1) _ (by omega) (by omega)]; exact l6 i Q hQ j q hq
            refine ab_cl ok_SF_years rfl [_] [] rfl ⟨_, _, rfl, rfl, Or.inl ⟨_, _, rfl, rfl⟩⟩ (Nat.le_of_ble_eq_true rfl) (t_Ha_passYear d fm X s2 t (cl (by simp) hC.1.2.2.2.2.2.2.2.1) (cl (by simp) hC.1.2.2.2.2.2.2.2.2.2) ((q 14 11 rfl (by decide) (by decide) (by decide) (by decide) (by decide)).trans hC.1.1) h5 ((q 14 12 rfl (by decide) (by decide) (by decide) (by decide) (by decide)).trans hC.1.2.2.1) h6) ?_
            rintro _ _ ⟨rfl, s3, rfl, hs3⟩
            show ab_Z m_SF_years _ _ _ 23 [_, _, _] [] _
            refine ab_go ok_SF_years 2 rfl ?_
            show ab_Z m_SF_years _ _ _ 17 [_, _, _] [] _
            have e : yrR s2 PG PF nc nd = rowN s PG PF nc nd (k + 1) := by
              rw [rowN]
              refine yrR_cg PG PF h6 (by rw [ab_ro_c]; exact hs.1) ?_ ?_ ?_ ?_
              · rw [ab_ro_o (by decide)]; exact funext fun j => q 16 j rfl (by decide) (by decide) (by decide) (by decide) (by decide)
              · rw [ab_ro_o (by decide)]; exact funext fun j => q 17 j rfl (by decide) (by decide) (by decide) (by decide) (by decide)
              · rw [ab_ro_o (by decide)]; exact funext fun j => q 19 j rfl (by decide) (by decide) (by decide) (by decide) (by decide)
              · rw [ab_ro_o (by decide)]; exact funext fun j => q 20 j rfl (by decide) (by decide) (by decide) (by decide) (by decide)
            have ih2 := ih s3 (by have h9 := hs.tr hs3; rw [e] at h9; rw [Nat.succ_mul]; exact h9)
            rw [nI_succ] at ih2
            exact ih2
      refine ab_go ok_SF_years 1 rfl ?_
      show ab_Z m_SF_years _ _ _ 8 [_, _, _] [_] _
      refine ab_br ok_SF_years rfl rfl ?_ ?_
      · intro h1
        show ab_Z m_SF_years _ _ _ 15 [_, _, _] [] _
        have h4 : n = 0 := by have := i_leR (z := 0) rfl h1; rw [nI_t (by omega)] at this; omega
        refine ab_go ok_SF_years 2 rfl ?_
        show ab_Z m_SF_years _ _ _ 17 [_, _, _] [] _
        refine lp s _ (fun _ _ _ _ => rfl) (fun s2 hs => ⟨rfl, s2, rfl, fun q => absurd q.2 (by omega), fun _ => ?_⟩)
        subst h4
        rw [Nat.zero_mul] at hs
        intro c k a b
        by_cases hc : c = 11
        · subst hc; rw [hs.1]; rfl
        · by_cases h10 : c = 10 ∧ k = 1
          · obtain ⟨rfl, rfl⟩ := h10
            rw [hs.2.1, nI_0, Int32.add_zero]
          · exact hs.2.2 c k a b hc h10
      · intro h1
        show ab_Z m_SF_years _ _ _ 9 [_, _, _] [] _
        have h4 : 0 < n := by have := i_nleR (z := 0) rfl h1; rw [nI_t (by omega)] at this; omega
        refine ab_go ok_SF_years 5 rfl ?_
        show ab_Z m_SF_years _ _ _ 14 [_, _, _] [_, _] _
        refine ab_cl ok_SF_years rfl [_, _] [] rfl ⟨_, _, rfl, rfl, Or.inl ⟨_, _, rfl, rfl⟩⟩ (Nat.le_of_ble_eq_true rfl) (t_Me_remember (d + 4) fm X s t hw hw4 hm hm4) ?_
        rintro _ _ ⟨rfl, rfl⟩
        show ab_Z m_SF_years _ _ _ 15 [_, _, _] [] _
        refine ab_go ok_SF_years 2 rfl ?_
        show ab_Z m_SF_years _ _ _ 17 [_, _, _] [] _
        exact lp _ _ (fun c k a b => memP_k b a) (fun s2 hs => ⟨rfl, s2, rfl, fun _ => Mm.of (Kp2.rf s) hs, fun q => absurd ⟨h3, by omega⟩ q⟩)
    · intro h2
      show ab_Z m_SF_years _ _ _ 5 [_, _, _] [] _
      refine ab_go ok_SF_years 1 rfl ?_
      show ab_Z m_SF_years _ _ _ 6 [_, _, _] [_] _
      have h3 : ¬ inR 41 x := fun q => by have := i_nleR (z := 40) rfl h2; have := q.2; omega
      exact ab_rI ok_SF_years rfl (⟨by rw [if_neg h3], s, rfl, fun q => absurd q.1 h3, fun _ => Kp2.rf s⟩)
end

