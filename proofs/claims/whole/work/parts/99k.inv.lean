/-! the heap in either coordinates; a contract in both -/
def hq (e : Bool) (fm : Value) (X : Nat × (Nat → Int32)) (s : Nat → Nat → Int32) (t : Nat → Nat → Int64) : ab_H := if e then HC fm X (fun c => s (pT c)) (fun c => t (pT c)) else HA fm X s t
theorem pP_hq (e : Bool) (fm : Value) (X : Nat × (Nat → Int32)) (s : Nat → Nat → Int32) (t : Nat → Nat → Int64) : pP (hq e (trv fm) X s t) = hq (!e) fm X s t := by
  cases e
  · show pP (HA (trv fm) X s t) = HC fm X _ _
    rw [pP_HA, trv_trv]
  · show pP (HC (trv fm) X (fun c => s (pT c)) (fun c => t (pT c))) = HA fm X s t
    rw [pP_HC, trv_trv, show (fun c => s (pT (pT c))) = s from funext fun c => by rw [pT_pT], show (fun c => t (pT (pT c))) = t from funext fun c => by rw [pT_pT]]
theorem hq_sh (e : Bool) (fm : Value) (X : Nat × (Nat → Int32)) (s : Nat → Nat → Int32) (t : Nat → Nat → Int64) : (hq e fm X s t).1 = shA := by cases e <;> rfl
abbrev PQ (b : Bool) (R : Int32 → (Nat → Nat → Int32) → (Nat → Nat → Int64) → Bool → Prop) (fm : Value) (X : Nat × (Nat → Int32)) : Option Value → ab_H → Prop := fun v h => ∃ r s' t' e, v = some (.int r) ∧ h = hq (b ^^ e) fm X s' t' ∧ R r s' t' e
theorem ab_T_ei {g : ab_Sg} {d : Nat} {vs : List Value} {X : Nat × (Nat → Int32)} {s : Nat → Nat → Int32} {t : Nat → Nat → Int64} {R : Int32 → (Nat → Nat → Int32) → (Nat → Nat → Int64) → Bool → Prop} (hvs : vs.map trv = vs) (k : ∀ fm, ab_T g d (0, 0) vs (HA fm X s t) (PQ false R fm X)) (b : Bool) (fm : Value) : ab_T g d (0, 0) vs (hq b fm X s t) (PQ b R fm X) := by
  cases b with
  | false => exact k fm
  | true =>
    have e1 : pP (hq true fm X s t) = HA (trv fm) X s t := by
      have := pP_hq true (trv fm) X s t
      rw [trv_trv] at this
      exact this
    refine ab_T_perm (h := hq true fm X s t) (Po' := PQ false R (trv fm) X) (hq_sh _ _ _ _ _) ?_ ?_ ?_
    · rw [hvs, e1]
      exact k (trv fm)
    · rintro v h ⟨r, s', t', e, -, rfl, -⟩
      exact hq_sh _ _ _ _ _
    · rintro v h ⟨r, s', t', e, rfl, rfl, hR⟩
      refine ⟨r, s', t', e, rfl, ?_, hR⟩
      rw [pP_hq]
      cases e <;> rfl
/-! rows: what goes on, on both sides -/
def GR (g : Nat → Int32) (nc nd : Nat) (C R : Nat → Int32) : Prop :=
  ((∀ j, j < 3 * nc → C j = R j) ∧ (∀ j, j < 3 * nd → C (15 + j) = R (21 + j)) ∧ (∀ e, e < nd → C (33 + e) = R (15 + e)) ∧ C 39 = R 39) ∧
  (∀ e, e < nd → C (33 + e) = -2 ∨ C (33 + e) = -3 ∨ ∃ c, c < nc ∧ C (33 + e) = nI c) ∧
  (∀ c f, c < nc → f < 3 → 0 ≤ (C (3 * c + f)).toInt ∧ (C (3 * c + f)).toInt ≤ (g (3 * c + f)).toInt ∧ (g (3 * c + f)).toInt ≤ 9) ∧
  (∀ e f, e < nd → f < 3 → 0 ≤ (C (15 + 3 * e + f)).toInt ∧ (C (15 + 3 * e + f)).toInt ≤ 9) ∧
  ∀ j, Ir nc nd j → R j = 0
theorem GR.cg {g g' : Nat → Int32} {nc nd : Nat} {C R C' R' : Nat → Int32} (h5 : nc ≤ 5) (h6 : nd ≤ 6) (hg : g' = g) (hC : ∀ j, j < 40 → C' j = C j) (hR : ∀ j, j < 40 → R' j = R j) (h : GR g nc nd C R) : GR g' nc nd C' R' := by
  subst hg
  obtain ⟨⟨a1, a2, a3, a4⟩, b, c, e, f⟩ := h
  refine ⟨⟨fun j hj => ?_, fun j hj => ?_, fun j hj => ?_, ?_⟩, fun j hj => ?_, fun x y hx hy => ?_, fun x y hx hy => ?_, fun j hj => ?_⟩
  · rw [hC j (by omega), hR j (by omega)]; exact a1 j hj
  · rw [hC _ (by omega), hR _ (by omega)]; exact a2 j hj
  · rw [hC _ (by omega), hR _ (by omega)]; exact a3 j hj
  · rw [hC _ (by omega), hR _ (by omega)]; exact a4
  · rw [hC _ (by omega)]; exact b j hj
  · rw [hC _ (by omega)]; exact c x y hx hy
  · rw [hC _ (by omega)]; exact e x y hx hy
  · rw [hR j (by unfold Ir at hj; omega)]; exact f j hj
theorem GR.V {s : Nat → Nat → Int32} {nc nd : Nat} {R : Nat → Int32} (h : GR (s 17) nc nd (s 11) R) : vR s nc nd R = s := by
  obtain ⟨⟨a1, a2, a3, a4⟩, -⟩ := h
  unfold vR
  rw [show rwF (s 11) nc nd R = s 11 from ?_, ro_id]
  funext j
  unfold rwF
  split
  · exact (a1 j (by assumption)).symm
  · split
    · have := a2 (j - 15) (by omega)
      rw [show 15 + (j - 15) = j by omega, show 21 + (j - 15) = j + 6 by omega] at this
      exact this.symm
    · split
      · have := a3 (j - 33) (by omega)
        rw [show 33 + (j - 33) = j by omega, show 15 + (j - 33) = j - 18 by omega] at this
        exact this.symm
      · split
        · rename_i h; rw [h]; exact a4.symm
        · rfl
/-- a thing done on both sides -/
theorem GR.do {s : Nat → Nat → Int32} {nc nd nt : Nat} {R r : Nat → Int32} (h5 : nc ≤ 5) (h6 : nd ≤ 6) (hv : vR s nc nd R = ab_ro s 11 r) (hQ : QI (ab_ro s 11 r) nc nd nt) (hz : ∀ j, Ir nc nd j → R j = 0) : GR (s 17) nc nd r R := by
  have e : rwF (s 11) nc nd R = r := by
    have := congrFun hv 11
    rw [ab_ro_c] at this
    unfold vR at this
    rw [ab_ro_c] at this
    exact this
  obtain ⟨⟨q1, -⟩, q2, q3, -⟩ := hQ
  refine ⟨⟨fun j hj => ?_, fun j hj => ?_, fun j hj => ?_, ?_⟩, fun e he => ?_, fun c f hc hf => ?_, fun e f he hf => ?_, hz⟩
  · rw [← e, rwF, if_pos hj]
  · rw [← e, rwF, if_neg (by omega), if_pos (by omega)]; congr 1; omega
  · rw [← e, rwF, if_neg (by omega), if_neg (by omega), if_pos (by omega)]; congr 1; omega
  · rw [← e, rwF, if_neg (by omega), if_neg (by omega), if_neg (by omega), if_pos rfl]
  · have := q1 e he
    rw [ab_ro_c] at this
    exact this
  · have := q2 c f hc hf
    rw [ab_ro_c, ab_ro_o (by decide)] at this
    exact this
  · have := q3 e f he hf
    rw [ab_ro_c] at this
    exact this
/-! the plan's table speaks of few rows -/
def K4 (s s' : Nat → Nat → Int32) : Prop := s' 11 = s 11 ∧ s' 16 = s 16 ∧ s' 19 = s 19 ∧ s' 20 = s 20
theorem nsV_4 {s s' : Nat → Nat → Int32} (h : K4 s s') (nd c : Nat) : nsV s' nd c = nsV s nd c := by unfold nsV; rw [h.1]
theorem tkV_4 {s s' : Nat → Nat → Int32} (h : K4 s s') (P : List (List Ins)) (c e f : Nat) (l n : Int32) : tkV s' P c e f l n = tkV s P c e f l n := by unfold tkV; rw [h.1, h.2.1, h.2.2.1, h.2.2.2]
theorem plN_4 {s s' : Nat → Nat → Int32} (h : K4 s s') (nd c a : Nat) : plN s' nd c a = plN s nd c a := by unfold plN; rw [nsV_4 h]
theorem plL_4 {s s' : Nat → Nat → Int32} (h : K4 s s') (PT : List (List Ins)) (nd c A : Nat) : ∀ i f, plL s' PT nd c A i f = plL s PT nd c A i f
  | 0, f => by rw [plL, plL, h.1]
  | i + 1, f => by rw [plL, plL, plL_4 h PT nd c A i f, tkV_4 h, plN_4 h]
theorem plT_4 {s s' : Nat → Nat → Int32} (h : K4 s s') (PT : List (List Ins)) (nd c A e f : Nat) : plT s' PT nd c A e f = plT s PT nd c A e f := by
  unfold plT
  rw [plL_4 h, tkV_4 h, plN_4 h]
theorem plO_4 {s s' : Nat → Nat → Int32} (h : K4 s s') (PT : List (List Ins)) (nd c A e : Nat) : plO s' PT nd c A e = plO s PT nd c A e := by
  unfold plO
  rw [show plT s' PT nd c A e = plT s PT nd c A e from funext fun f => plT_4 h PT nd c A e f, show plL s' PT nd c A e = plL s PT nd c A e from funext fun f => plL_4 h PT nd c A e f]
theorem plK_4 {s s' : Nat → Nat → Int32} (h : K4 s s') (PT : List (List Ins)) (nd c op A : Nat) : ∀ i, plK s' PT nd c op A i = plK s PT nd c op A i
  | 0 => rfl
  | i + 1 => by rw [plK, plK, plK_4 h PT nd c op A i, plO_4 h]
theorem scF_4 {s s' : Nat → Nat → Int32} (h : K4 s s') (PB : List (List Ins)) (c A : Nat) (n : Int32) (pr : Nat → Int32) : ∀ e, scF s' PB c A n pr e = scF s PB c A n pr e
  | 0 => rfl
  | e + 1 => by rw [scF, scF, scF_4 h PB c A n pr e, h.1, h.2.1, h.2.2.1]
theorem plS_4 {s s' : Nat → Nat → Int32} (h : K4 s s') (PT PB : List (List Ins)) (nd c A : Nat) : plS s' PT PB nd c A = plS s PT PB nd c A := by
  unfold plS plP
  rw [scF_4 h, plN_4 h, show (fun e => sumV (plT s' PT nd c A e) 3) = fun e => sumV (plT s PT nd c A e) 3 from funext fun e => by rw [show plT s' PT nd c A e = plT s PT nd c A e from funext fun f => plT_4 h PT nd c A e f]]
theorem POk_4 {s s' : Nat → Nat → Int32} {t t' : Nat → Nat → Int64} {PT PB : List (List Ins)} {nc nd : Nat} (h : K4 s s') (h47 : s' 47 = s 47) (ht : t' 46 = t 46) (g : POk s t PT PB nc nd) : POk s' t' PT PB nc nd := by
  intro c hc
  have e : opN s' nd = opN s nd := by unfold opN; rw [h.1]
  obtain ⟨a, b⟩ := g c hc
  refine ⟨fun A hA => ?_, fun A hA h0 hp => ?_⟩
  · rw [ht, e, show plC s' PT nd c (opN s nd) A = plC s PT nd c (opN s nd) A from plK_4 h PT nd c _ A 6]
    exact a A hA
  · rw [e, show plC s' PT nd c (opN s nd) A = plC s PT nd c (opN s nd) A from plK_4 h PT nd c _ A 6] at hp
    rw [h47, plS_4 h]
    exact b A hA h0 hp
/-! the invariant -/
def IT (s : Nat → Nat → Int32) (t : Nat → Nat → Int64) (x : Tx) (lv : Nat) : Prop := DrC (fun c => s (pT c)) (fun c => t (pT c)) x ∧ DM s lv x ∧ (∀ k, k < 4 → ∃ c b, c ≤ 420 * lv + 400 ∧ b ≤ 130 * lv + 100 ∧ LwM s lv k (xLw x k) (xLw tx0 k) c b) ∧ s 81 18 = nI lv ∧ lv < 2 ∧ okX x
def IM (s : Nat → Nat → Int32) (x : Tx) (w m : Nat) : Prop := s 38 3 = nI w ∧ w < 40 ∧ s 38 4 = nI m ∧ m ≤ 40 ∧ s 81 56 = nI m ∧ ∀ i, i < m → GR (s 17) (xNc x) (xNd x) (fun j => s 39 (40 * ((w + 40 - m + i) % 40) + j)) (fun j => s 119 (40 * i + j))
def IS (s : Nat → Nat → Int32) (x : Tx) : Prop := ∃ a, a < 8 ∧ s 38 2 = nI a ∧ (∀ i, i < 3 → s 127 i = if a.testBit i then 1 else 0) ∧ ∀ i, i < 3 → a.testBit i = true → GR (s 17) (xNc x) (xNd x) (fun j => s 40 (40 * i + j)) (fun j => s 128 (40 * i + j))
def IOt (s : Nat → Nat → Int32) : Prop := ∃ nk, TI s nk ∧ RTo s s nk
def IP (s : Nat → Nat → Int32) : Prop := (∃ L, L ≤ 2000 ∧ s 1 1 = nI L ∧ s 81 2 = nI L) ∧ s 2 = s 82 ∧ ∀ j, (s 82 j).toInt8.toInt32 = s 82 j
def IL (n : Nat) (s : Nat → Nat → Int32) (t : Nat → Nat → Int64) (x : Tx) : Prop := ∃ a, s 10 1 = nI a ∧ a ≤ 2000 * n ∧ (s 45 7 = -1 ∨ ∃ b, b ≤ a ∧ s 45 7 = nI b) ∧ (s 45 7 = s 10 1 → POk s t (xLw x 0) (xLw x 2) (xNc x) (xNd x))
def IW (s : Nat → Nat → Int32) (t : Nat → Nat → Int64) : Prop := s 0 9 = s 81 17 ∧ (WdC t ∧ WdR t) ∧ ∃ z, z ≤ 400 ∧ s 8 5 = nI z
def INV (n : Nat) (s : Nat → Nat → Int32) (t : Nat → Nat → Int64) : Prop := ∃ (x : Tx) (lv w m : Nat), IT s t x lv ∧ GR (s 17) (xNc x) (xNd x) (s 11) (s 114) ∧ IM s x w m ∧ IS s x ∧ IOt s ∧ IP s ∧ IW s t ∧ IL n s t x
theorem IT.of {s s' : Nat → Nat → Int32} {t t' : Nat → Nat → Int64} {x : Tx} {lv : Nat} (h1 : ∀ c k, 14 ≤ c → c ≤ 37 → scr1 c k = false → s' c k = s c k) (h2 : t' 15 = t 15 ∧ t' 18 = t 18) (h3 : ∀ c, 91 ≤ c → c ≤ 110 → s' c = s c) (h4 : s' 81 18 = s 81 18) (h : IT s t x lv) : IT s' t' x lv := by
  obtain ⟨a, b, c, e, f, g⟩ := h
  have r : ∀ c, 14 ≤ c → c ≤ 37 → (∀ k, scr1 c k = false) → s' c = s c := fun c p q z => funext fun k => h1 c k p q (z k)
  refine ⟨⟨a.1.of ?_ ?_ ?_ ?_, a.2.1.of ?_ ?_ ?_ ?_, a.2.2.1.of ?_ ?_, a.2.2.2.1.of ?_ ?_, ?_, ?_, ?_, ?_⟩, b.of (fun c p q => h3 c p (by omega)), fun k hk => ?_, h4.trans e, f, g⟩
  · exact h1 14 11 (by decide) (by decide) rfl
  · exact r 16 (by decide) (by decide) (fun _ => rfl)
  · exact r 17 (by decide) (by decide) (fun _ => rfl)
  · exact h2.1
  · exact h1 14 12 (by decide) (by decide) rfl
  · exact r 19 (by decide) (by decide) (fun _ => rfl)
  · exact r 20 (by decide) (by decide) (fun _ => rfl)
  · exact h2.2
  · exact h1 14 13 (by decide) (by decide) rfl
  · exact r 21 (by decide) (by decide) (fun _ => rfl)
  · exact h1 14 14 (by decide) (by decide) rfl
  · exact h1 14 15 (by decide) (by decide) rfl
  · exact CLaw.of (s := fun c => s (pT c)) (s' := fun c => s' (pT c)) (p := 65) (h1 22 4 (by decide) (by decide) rfl) (r 23 (by decide) (by decide) (fun _ => rfl)) (r 24 (by decide) (by decide) (fun _ => rfl)) a.2.2.2.2.1
  · exact CLaw.of (s := fun c => s (pT c)) (s' := fun c => s' (pT c)) (p := 69) (h1 26 4 (by decide) (by decide) rfl) (r 27 (by decide) (by decide) (fun _ => rfl)) (r 28 (by decide) (by decide) (fun _ => rfl)) a.2.2.2.2.2.1
  · exact CLaw.of (s := fun c => s (pT c)) (s' := fun c => s' (pT c)) (p := 73) (h1 30 4 (by decide) (by decide) rfl) (r 31 (by decide) (by decide) (fun _ => rfl)) (r 32 (by decide) (by decide) (fun _ => rfl)) a.2.2.2.2.2.2.1
  · exact CLaw.of (s := fun c => s (pT c)) (s' := fun c => s' (pT c)) (p := 77) (h1 34 4 (by decide) (by decide) rfl) (r 35 (by decide) (by decide) (fun _ => rfl)) (r 36 (by decide) (by decide) (fun _ => rfl)) a.2.2.2.2.2.2.2
  · obtain ⟨c', b', p1, p2, p3⟩ := c k hk
    refine ⟨c', b', p1, p2, p3.of ?_ ?_ (fun j _ _ => ⟨?_, ?_⟩) (fun y j q1 q2 _ _ => ?_) (Nat.le_refl _) (Nat.le_refl _)⟩
    · rw [h3 102 (by decide) (by decide)]
    · rw [h3 103 (by decide) (by decide)]
    · rw [h3 109 (by decide) (by decide)]
    · rw [h3 110 (by decide) (by decide)]
    · rw [h3 y (by omega) (by omega)]
theorem IT.C {s : Nat → Nat → Int32} {t : Nat → Nat → Int64} {x : Tx} {lv : Nat} (h : IT s t x lv) : CS s (xNc x) (xNd x) (xNt x) (xLw x 0) (xLw x 1) (xLw x 2) (xLw x 3) := by
  obtain ⟨⟨a1, a2, a3, a4, a5, a6, a7, a8⟩, -⟩ := h
  exact ⟨a1.1, a1.2.1, a2.1, a2.2.1, a3.1, a3.2.1, CLaw.mv (q := 65) (s := fun c => s (pT c)) rfl rfl rfl a5, CLaw.mv (q := 69) (s := fun c => s (pT c)) rfl rfl rfl a6, CLaw.mv (q := 73) (s := fun c => s (pT c)) rfl rfl rfl a7, CLaw.mv (q := 77) (s := fun c => s (pT c)) rfl rfl rfl a8⟩
theorem IT.R {s : Nat → Nat → Int32} {t : Nat → Nat → Int64} {x : Tx} {lv : Nat} (h : IT s t x lv) : RC s lv s (xNc x) (xNd x) (xNt x) (xLw x 0) (xLw x 1) (xLw x 2) (xLw x 3) := by
  obtain ⟨a, b, c, e, f, g⟩ := h
  exact ⟨link_T (s := fun c => s (pT c)) (t := fun c => t (pT c)) (fun c p q => by show s (c - 43) = s (pT c); unfold pT; rw [if_neg (by omega), if_pos ⟨p, q⟩]) a b e f, link_L f c⟩
theorem RT.cg {s s' T : Nat → Nat → Int32} {lv nc nd nt : Nat} (e : ∀ c, 81 ≤ c → s' c = s c) (h : RT s lv T nc nd nt) : RT s' lv T nc nd nt := by
  unfold RT
  rw [e 81 (by decide), e 91 (by decide), e 94 (by decide), e 97 (by decide), e 92 (by decide), e 93 (by decide), e 95 (by decide), e 96 (by decide), e 98 (by decide), e 99 (by decide), e 100 (by decide), e 101 (by decide)]
  exact h
theorem IT.R' {s s' : Nat → Nat → Int32} {t : Nat → Nat → Int64} {x : Tx} {lv : Nat} (h : IT s t x lv) (e : ∀ c, 81 ≤ c → s' c = s c) : RC s' lv s (xNc x) (xNd x) (xNt x) (xLw x 0) (xLw x 1) (xLw x 2) (xLw x 3) := by
  refine ⟨h.R.1.cg e, link_L h.2.2.2.2.1 fun k hk => ?_⟩
  obtain ⟨c', b', p1, p2, p3⟩ := h.2.2.1 k hk
  refine ⟨c', b', p1, p2, p3.of ?_ ?_ (fun j _ _ => ⟨?_, ?_⟩) (fun y j q1 q2 _ _ => ?_) (Nat.le_refl _) (Nat.le_refl _)⟩
  · rw [e 102 (by decide)]
  · rw [e 103 (by decide)]
  · rw [e 109 (by decide)]
  · rw [e 110 (by decide)]
  · rw [e y (by omega)]
theorem IT.Q {s : Nat → Nat → Int32} {t : Nat → Nat → Int64} {x : Tx} {lv : Nat} {R : Nat → Int32} (h : IT s t x lv) (g : GR (s 17) (xNc x) (xNd x) (s 11) R) : QI s (xNc x) (xNd x) (xNt x) := by
  obtain ⟨a, -, -, -, -, o1, o2, o3, -⟩ := h
  obtain ⟨-, g1, g2, g3, -⟩ := g
  refine ⟨⟨g1, fun k hk i hi => ?_⟩, g2, g3, fun e f he hf => ?_⟩
  · have e21 : s 21 (2 * k + i) = xTr x (2 * k + i) := a.2.2.1.2.2 (2 * k + i) (show 2 * k + i < 2 * xNt x by omega)
    rw [e21]
    exact o3 _ (by omega)
  · have e20 : s 20 (3 * e + f) = nI (xNe x (3 * e + f)) := (a.2.1.2.2 e he).2.2.2 f hf
    have := (o2 e he).2 f hf
    rw [e20, nI_t (by omega)]
    omega

