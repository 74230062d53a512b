/-! the reference tells: pictures -/
def wMp (sd c k : Nat) : Prop := (c = 81 ∧ (k = 11 ∨ k = 12 ∨ k = 13 ∨ k = 14 ∨ k = 15 ∨ k = 16 ∨ k = 20 ∨ k = 36 ∨ k = 42 ∨ k = 46)) ∨ c = 90 ∨ c = 111 ∨ ((c = 91 ∨ c = 94 ∨ c = 97 ∨ c = 100 ∨ c = 101) ∧ k = sd) ∨ (c = 92 ∧ 5 * sd ≤ k ∧ k < 5 * sd + 5) ∨ (c = 93 ∧ 15 * sd ≤ k ∧ k < 15 * sd + 15) ∨ (c = 95 ∧ 6 * sd ≤ k ∧ k < 6 * sd + 6) ∨ (c = 96 ∧ 18 * sd ≤ k ∧ k < 18 * sd + 18) ∨ ((c = 98 ∨ c = 99) ∧ 6 * sd ≤ k ∧ k < 6 * sd + 6) ∨ ((c = 102 ∨ c = 103) ∧ 4 * sd ≤ k ∧ k < 4 * sd + 4) ∨ (104 ≤ c ∧ c ≤ 108 ∧ 130 * sd ≤ k ∧ k < 130 * sd + 130) ∨ ((c = 109 ∨ c = 110) ∧ 420 * sd ≤ k ∧ k < 420 * sd + 420)
theorem wm0 {sd c k : Nat} (h : c = 81 ∧ (k = 11 ∨ k = 12 ∨ k = 13 ∨ k = 14 ∨ k = 15 ∨ k = 16 ∨ k = 20 ∨ k = 36 ∨ k = 42 ∨ k = 46)) : wMp sd c k := (Or.inl h)
theorem wm1 {sd c k : Nat} (h : c = 90) : wMp sd c k := (Or.inr (Or.inl h))
theorem wm2 {sd c k : Nat} (h : c = 111) : wMp sd c k := (Or.inr (Or.inr (Or.inl h)))
theorem wm3 {sd c k : Nat} (h : (c = 91 ∨ c = 94 ∨ c = 97 ∨ c = 100 ∨ c = 101) ∧ k = sd) : wMp sd c k := (Or.inr (Or.inr (Or.inr (Or.inl h))))
theorem wm4 {sd c k : Nat} (h : c = 92 ∧ 5 * sd ≤ k ∧ k < 5 * sd + 5) : wMp sd c k := (Or.inr (Or.inr (Or.inr (Or.inr (Or.inl h)))))
theorem wm5 {sd c k : Nat} (h : c = 93 ∧ 15 * sd ≤ k ∧ k < 15 * sd + 15) : wMp sd c k := (Or.inr (Or.inr (Or.inr (Or.inr (Or.inr (Or.inl h))))))
theorem wm6 {sd c k : Nat} (h : c = 95 ∧ 6 * sd ≤ k ∧ k < 6 * sd + 6) : wMp sd c k := (Or.inr (Or.inr (Or.inr (Or.inr (Or.inr (Or.inr (Or.inl h)))))))
theorem wm7 {sd c k : Nat} (h : c = 96 ∧ 18 * sd ≤ k ∧ k < 18 * sd + 18) : wMp sd c k := (Or.inr (Or.inr (Or.inr (Or.inr (Or.inr (Or.inr (Or.inr (Or.inl h))))))))
theorem wm8 {sd c k : Nat} (h : (c = 98 ∨ c = 99) ∧ 6 * sd ≤ k ∧ k < 6 * sd + 6) : wMp sd c k := (Or.inr (Or.inr (Or.inr (Or.inr (Or.inr (Or.inr (Or.inr (Or.inr (Or.inl h)))))))))
theorem wm9 {sd c k : Nat} (h : (c = 102 ∨ c = 103) ∧ 4 * sd ≤ k ∧ k < 4 * sd + 4) : wMp sd c k := (Or.inr (Or.inr (Or.inr (Or.inr (Or.inr (Or.inr (Or.inr (Or.inr (Or.inr (Or.inl h))))))))))
theorem wm10 {sd c k : Nat} (h : 104 ≤ c ∧ c ≤ 108 ∧ 130 * sd ≤ k ∧ k < 130 * sd + 130) : wMp sd c k := (Or.inr (Or.inr (Or.inr (Or.inr (Or.inr (Or.inr (Or.inr (Or.inr (Or.inr (Or.inr (Or.inl h)))))))))))
theorem wm11 {sd c k : Nat} (h : (c = 109 ∨ c = 110) ∧ 420 * sd ≤ k ∧ k < 420 * sd + 420) : wMp sd c k := (Or.inr (Or.inr (Or.inr (Or.inr (Or.inr (Or.inr (Or.inr (Or.inr (Or.inr (Or.inr (Or.inr h)))))))))))
def KW (sd : Nat) (s s' : Nat → Nat → Int32) : Prop := ∀ c k, ¬ wMp sd c k → s' c k = s c k
theorem KW.rf (sd : Nat) (s : Nat → Nat → Int32) : KW sd s s := fun _ _ _ => rfl
theorem KW.tr {sd : Nat} {a b c : Nat → Nat → Int32} (h : KW sd a b) (g : KW sd b c) : KW sd a c := fun x k p => (g x k p).trans (h x k p)
theorem KN.w {sd : Nat} {a b : Nat → Nat → Int32} (h : KN a b) : KW sd a b := fun x k p => h x k (fun z => p (Or.inl ⟨z.1, by omega⟩))
theorem KW.u {sd : Nat} {a b : Nat → Nat → Int32} {c j : Nat} {x : Int32} (hc : wMp sd c j) (h : KW sd a b) : KW sd a (ab_up b c j x) := fun y k p => by
  by_cases h1 : y = c
  · subst h1
    by_cases h2 : k = j
    · subst h2
      exact absurd hc p
    · rw [ab_up_n h2]
      exact h y k p
  · rw [ab_up_o h1]
    exact h y k p
def DkB (s : Nat → Nat → Int32) (cn an fn mx sd : Nat) (y : Nat × (Nat → Nat) × (Nat → Nat) × (Nat → List Nat)) : Prop := s cn sd = nI y.1 ∧ y.1 ≤ mx ∧ ∀ c, c < y.1 → s an (mx * sd + c) = nI (y.2.1 c) ∧ ∀ f, f < 3 → s fn (3 * (mx * sd + c) + f) = nI (y.2.2.1 (3 * c + f))
theorem DkB.of {s s' : Nat → Nat → Int32} {cn an fn mx sd : Nat} {y : Nat × (Nat → Nat) × (Nat → Nat) × (Nat → List Nat)} (h1 : s' cn sd = s cn sd) (h2 : s' an = s an) (h3 : s' fn = s fn) (h : DkB s cn an fn mx sd y) : DkB s' cn an fn mx sd y := by
  refine ⟨h1.trans h.1, h.2.1, fun c hc => ?_⟩
  rw [h2, h3]
  exact h.2.2 c hc
def DtM (s : Nat → Nat → Int32) (sd : Nat) (y : Nat × (Nat → Int32)) : Prop := s 97 sd = nI y.1 ∧ y.1 ≤ 6 ∧ ∀ k, k < y.1 → s 98 (6 * sd + k) = y.2 (2 * k) ∧ s 99 (6 * sd + k) = y.2 (2 * k + 1)
theorem DtM.of {s s' : Nat → Nat → Int32} {sd : Nat} {y : Nat × (Nat → Int32)} (h1 : s' 97 sd = s 97 sd) (h2 : s' 98 = s 98) (h3 : s' 99 = s 99) (h : DtM s sd y) : DtM s' sd y := by
  refine ⟨h1.trans h.1, h.2.1, fun c hc => ?_⟩
  rw [h2, h3]
  exact h.2.2 c hc
def DsM (s : Nat → Nat → Int32) (sd : Nat) (y : Nat × Nat) : Prop := s 100 sd = nI y.1 ∧ s 101 sd = nI y.2
def DM (s : Nat → Nat → Int32) (sd : Nat) (x : Tx) : Prop := DkB s 91 92 93 5 sd x.1 ∧ DkB s 94 95 96 6 sd x.2.1 ∧ DtM s sd x.2.2.1 ∧ DsM s sd x.2.2.2.1
theorem DM.of {s s' : Nat → Nat → Int32} {sd : Nat} {x : Tx} (h : ∀ c, 91 ≤ c → c ≤ 101 → s' c = s c) (g : DM s sd x) : DM s' sd x := ⟨g.1.of (by rw [h 91 (by decide) (by decide)]) (h 92 (by decide) (by decide)) (h 93 (by decide) (by decide)), g.2.1.of (by rw [h 94 (by decide) (by decide)]) (h 95 (by decide) (by decide)) (h 96 (by decide) (by decide)), g.2.2.1.of (by rw [h 97 (by decide) (by decide)]) (h 98 (by decide) (by decide)) (h 99 (by decide) (by decide)), ⟨by rw [h 100 (by decide) (by decide)]; exact g.2.2.2.1, by rw [h 101 (by decide) (by decide)]; exact g.2.2.2.2⟩⟩
def LsM (s : Nat → Nat → Int32) (sd n : Nat) (y : Nat → List (List Ins)) : Prop := ∃ c b, s 81 42 = nI c ∧ 420 * sd ≤ c ∧ c ≤ 420 * sd + n ∧ s 81 36 = nI b ∧ 130 * sd ≤ b ∧ 4 * b ≤ 520 * sd + n ∧ ∀ k, k < 4 → LwM s sd k (y k) (xLw tx0 k) c b
theorem LsM.of {s s' : Nat → Nat → Int32} {sd n n' : Nat} {y : Nat → List (List Ins)} (h1 : s' 81 42 = s 81 42) (h2 : s' 81 36 = s 81 36) (h : ∀ c, 102 ≤ c → c ≤ 110 → s' c = s c) (hn : n ≤ n') (g : LsM s sd n y) : LsM s' sd n' y := by
  obtain ⟨c, b, g1, g2, g3, g4, g5, g6, g7⟩ := g
  exact ⟨c, b, h1.trans g1, g2, by omega, h2.trans g4, g5, by omega, fun k hk => (g7 k hk).of (by rw [h 102 (by decide) (by decide)]) (by rw [h 103 (by decide) (by decide)]) (fun j _ _ => by rw [h 109 (by decide) (by decide), h 110 (by decide) (by decide)]; exact ⟨rfl, rfl⟩) (fun j k p q _ _ => by rw [h j (by omega) (by omega)]) (Nat.le_refl _) (Nat.le_refl _)⟩
/-- between two tells -/
def RSt (K P v : Nat → Nat) (nm : Nat → List Nat) (sd : Nat) (s : Nat → Nat → Int32) (t : Nat → Nat → Int64) (n : Nat) (x : Tx) : Prop := TM s t K P v nm ∧ RdM s K P (.inl n) ∧ LtM s P (xLt x) ∧ LtQ (xLt x) n ∧ s 81 12 = 0 ∧ (s 81 19 = nI sd ∧ sd < 2) ∧ NmM s t x ∧ DM s sd x ∧ LsM s sd n (xLw x)
abbrev PW (K P v : Nat → Nat) (nm : Nat → List Nat) (sd : Nat) (fm : Value) (X : Nat × (Nat → Int32)) (s : Nat → Nat → Int32) (t : Nat → Nat → Int64) (Q : Rs (Nat × Tx)) : Option Value → ab_H → Prop := fun r h => r = none ∧ ∃ s' t', h = HA fm X s' t' ∧ KW sd s s' ∧ (∀ c, c ≠ 89 → t' c = t c) ∧ RdM s' K P (mpT Prod.fst Q) ∧ ∀ q, Q = .inl q → RSt K P v nm sd s' t' q.1 q.2

