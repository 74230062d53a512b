/-! texts: how tokens are read -/
abbrev Rs (α : Type) : Type := α ⊕ (Nat × Nat)
def bnd {α β : Type} (x : Rs α) (f : α → Rs β) : Rs β := match x with
  | .inl a => f a
  | .inr e => .inr e
theorem bnd_l {α β : Type} (a : α) (f : α → Rs β) : bnd (.inl a) f = f a := rfl
theorem bnd_r {α β : Type} (e : Nat × Nat) (f : α → Rs β) : bnd (.inr e : Rs α) f = .inr e := rfl
theorem bnd_bnd {α β γ : Type} (x : Rs α) (f : α → Rs β) (g : β → Rs γ) : bnd (bnd x f) g = bnd x (fun a => bnd (f a) g) := by cases x <;> rfl
def goT (t : Nat) : Rs Nat := if t < 400 then .inl (t + 1) else .inr (2, t)
def eatT (K : Nat → Nat) (w t : Nat) : Rs Nat := if K t = w then goT t else .inr (1, t)
def lvL (K : Nat → Nat) (o : Nat → Nat) (u : Nat → Rs (Nat × List Ins)) : Nat → Nat → List Ins → Rs (Nat × List Ins)
  | 0, t, C => .inl (t, C)
  | n + 1, t, C => if o (K t) = 0 then .inl (t, C) else bnd (goT t) fun t1 => bnd (u t1) fun q => lvL K o u n q.1 (C ++ (q.2 ++ [(o (K t), 0)]))
def lvT (K : Nat → Nat) (o : Nat → Nat) (u : Nat → Rs (Nat × List Ins)) (t : Nat) : Rs (Nat × List Ins) := bnd (u t) fun q => lvL K o u 400 q.1 q.2
def oM (k : Nat) : Nat := if k = 42 then 4 else if k = 47 then 5 else 0
def oA (k : Nat) : Nat := if k = 43 then 2 else if k = 45 then 3 else 0
def unA (K v : Nat → Nat) (t : Nat) (p : Rs (Nat × List Ins)) : Rs (Nat × List Ins) := if K t = 3 then bnd (goT t) fun t1 => .inl (t1, [(0, v t)]) else if 268 ≤ K t then bnd (goT t) fun t1 => .inl (t1, [(1, K t - 268)]) else if K t = 40 then p else .inr (1, t)
def unT (K v : Nat → Nat) : Nat → Nat → Rs (Nat × List Ins)
  | 0, t => unA K v t (.inr (2, t))
  | r + 1, t => unA K v t (bnd (goT t) fun t1 => bnd (lvT K oA (lvT K oM (unT K v r)) t1) fun q => bnd (eatT K 41 q.1) fun t2 => .inl (t2, q.2))
abbrev prT (K v : Nat → Nat) (r t : Nat) : Rs (Nat × List Ins) := lvT K oM (unT K v r) t
abbrev smT (K v : Nat → Nat) (r t : Nat) : Rs (Nat × List Ins) := lvT K oA (lvT K oM (unT K v r)) t
def lawL (K v : Nat → Nat) : Nat → Nat → List (List Ins) → Rs (Nat × List (List Ins))
  | 0, t, P => if K t = 265 then .inr (2, t) else bnd (smT K v 6 t) fun q => .inl (q.1, P ++ [q.2])
  | n + 1, t, P => if K t = 265 then bnd (goT t) fun t1 => bnd (smT K v 6 t1) fun q1 => bnd (eatT K 60 q1.1) fun t2 => bnd (smT K v 6 t2) fun q2 => bnd (eatT K 266 q2.1) fun t3 => bnd (smT K v 6 t3) fun q3 => bnd (eatT K 267 q3.1) fun t4 => lawL K v n t4 (P ++ [q1.2, q2.2, q3.2]) else bnd (smT K v 6 t) fun q => .inl (q.1, P ++ [q.2])
def lawT (K v : Nat → Nat) (t : Nat) : Rs (Nat × List (List Ins)) := bnd (goT t) fun t1 => bnd (eatT K 61 t1) fun t2 => lawL K v 4 t2 []
def ltU (l : Nat × Nat) (c t : Nat) : Nat × Nat := if l.1 = 0 then (c, t) else l
def intT (K v : Nat → Nat) (most t : Nat) (l : Nat × Nat) : Rs (Nat × Nat × (Nat × Nat)) := bnd (eatT K 3 t) fun t1 => .inl (t1, v t, if most < v t then ltU l 5 t else l)
def lv3T (K v : Nat → Nat) (t : Nat) (l : Nat × Nat) : Rs (Nat × (Nat → Nat) × (Nat × Nat)) := bnd (intT K v 9 t l) fun a => bnd (intT K v 9 a.1 a.2.2) fun b => bnd (intT K v 9 b.1 b.2.2) fun c => .inl (c.1, fun f => if f = 0 then a.2.1 else if f = 1 then b.2.1 else c.2.1, c.2.2)
/-- a text: clerks (how many, ages, faces, names), deeds (how many, worths, needs, names), treaties (how many, their deeds), slips, seed, laws, the first late fault -/
abbrev Tx : Type := (Nat × (Nat → Nat) × (Nat → Nat) × (Nat → List Nat)) × (Nat × (Nat → Nat) × (Nat → Nat) × (Nat → List Nat)) × (Nat × (Nat → Int32)) × (Nat × Nat) × (Nat → List (List Ins)) × (Nat × Nat)
abbrev xNc (x : Tx) : Nat := x.1.1
abbrev xAg (x : Tx) : Nat → Nat := x.1.2.1
abbrev xFc (x : Tx) : Nat → Nat := x.1.2.2.1
abbrev xCn (x : Tx) : Nat → List Nat := x.1.2.2.2
abbrev xNd (x : Tx) : Nat := x.2.1.1
abbrev xWo (x : Tx) : Nat → Nat := x.2.1.2.1
abbrev xNe (x : Tx) : Nat → Nat := x.2.1.2.2.1
abbrev xDn (x : Tx) : Nat → List Nat := x.2.1.2.2.2
abbrev xNt (x : Tx) : Nat := x.2.2.1.1
abbrev xTr (x : Tx) : Nat → Int32 := x.2.2.1.2
abbrev xSl (x : Tx) : Nat := x.2.2.2.1.1
abbrev xSd (x : Tx) : Nat := x.2.2.2.1.2
abbrev xLw (x : Tx) : Nat → List (List Ins) := x.2.2.2.2.1
abbrev xLt (x : Tx) : Nat × Nat := x.2.2.2.2.2
def updN {α : Type} (f : Nat → α) (k : Nat) (v : α) : Nat → α := fun j => if j = k then v else f j
def fil3 (f : Nat → Nat) (k : Nat) (g : Nat → Nat) : Nat → Nat := fun j => if 3 * k ≤ j ∧ j < 3 * k + 3 then g (j - 3 * k) else f j
def anyN (p : Nat → Bool) : Nat → Bool
  | 0 => false
  | n + 1 => anyN p n || p n
def fstM (p : Nat → Bool) : Nat → Nat → Int32
  | _, 0 => -1
  | k, n + 1 => if p k then nI k else fstM p (k + 1) n
def hasX (x : Tx) (w : List Nat) : Bool := anyN (fun c => decide (xCn x c = w)) (xNc x) || anyN (fun e => decide (xDn x e = w)) (xNd x)
def deedX (x : Tx) (w : List Nat) : Int32 := fstM (fun e => decide (xDn x e = w)) 0 (xNd x)
section
variable (K v : Nat → Nat) (nm : Nat → List Nat)
def clkT (x : Tx) (t : Nat) : Rs (Nat × Tx) := if xNc x = 5 then .inr (2, t) else bnd (goT t) fun t1 => bnd (eatT K 2 t1) fun t2 => bnd (intT K v 99 t2 (if hasX x (nm t1) = true then ltU (xLt x) 3 t1 else xLt x)) fun a => bnd (lv3T K v a.1 a.2.2) fun b => .inl (b.1, ((xNc x + 1, updN (xAg x) (xNc x) a.2.1, fil3 (xFc x) (xNc x) b.2.1, updN (xCn x) (xNc x) (nm t1)), x.2.1, x.2.2.1, x.2.2.2.1, x.2.2.2.2.1, b.2.2))
def dedT (x : Tx) (t : Nat) : Rs (Nat × Tx) := if xNd x = 6 then .inr (2, t) else bnd (goT t) fun t1 => bnd (eatT K 2 t1) fun t2 => bnd (intT K v 99 t2 (if hasX x (nm t1) = true then ltU (xLt x) 3 t1 else xLt x)) fun a => bnd (lv3T K v a.1 a.2.2) fun b => .inl (b.1, (x.1, (xNd x + 1, updN (xWo x) (xNd x) a.2.1, fil3 (xNe x) (xNd x) b.2.1, updN (xDn x) (xNd x) (nm t1)), x.2.2.1, x.2.2.2.1, x.2.2.2.2.1, b.2.2))
def dnT (x : Tx) (t : Nat) (l : Nat × Nat) : Rs (Nat × Int32 × (Nat × Nat)) := bnd (eatT K 2 t) fun t1 => .inl (t1, deedX x (nm t), if deedX x (nm t) = -1 then ltU l 4 t else l)
def treT (x : Tx) (t : Nat) : Rs (Nat × Tx) := if xNt x = 6 then .inr (2, t) else bnd (goT t) fun t1 => bnd (dnT K nm x t1 (xLt x)) fun a => bnd (dnT K nm x a.1 a.2.2) fun b => .inl (b.1, (x.1, x.2.1, (xNt x + 1, updN (updN (xTr x) (2 * xNt x) a.2.1) (2 * xNt x + 1) b.2.1), x.2.2.2.1, x.2.2.2.2.1, if a.2.1 = b.2.1 ∧ a.2.1 ≠ -1 then ltU b.2.2 3 a.1 else b.2.2))
def lwT (x : Tx) (k t : Nat) : Rs (Nat × Tx) := bnd (lawT K v t) fun q => .inl (q.1, (x.1, x.2.1, x.2.2.1, x.2.2.2.1, updN (xLw x) k q.2, xLt x))
def slT' (x : Tx) (t : Nat) : Rs (Nat × Tx) := bnd (goT t) fun t1 => bnd (intT K v 100 t1 (xLt x)) fun a => .inl (a.1, (x.1, x.2.1, x.2.2.1, (a.2.1, xSd x), x.2.2.2.2.1, a.2.2))
def sdT (x : Tx) (t : Nat) : Rs (Nat × Tx) := bnd (goT t) fun t1 => bnd (intT K v 9999 t1 (xLt x)) fun a => .inl (a.1, (x.1, x.2.1, x.2.2.1, (xSl x, a.2.1), x.2.2.2.2.1, a.2.2))
def telB (x : Tx) (t : Nat) : Rs (Nat × Tx) := if K t = 256 then clkT K v nm x t else if K t = 257 then dedT K v nm x t else if K t = 258 then treT K nm x t else if K t = 259 then lwT K v x 0 t else if K t = 260 then lwT K v x 1 t else if K t = 261 then lwT K v x 2 t else if K t = 262 then lwT K v x 3 t else if K t = 263 then slT' K v x t else if K t = 264 then sdT K v x t else .inr (1, t)
def telT (x : Tx) (t : Nat) : Rs (Nat × Tx) := bnd (telB K v nm x t) fun q => bnd (eatT K 59 q.1) fun t1 => .inl (t1, q.2)
def topT : Nat → Nat → Tx → Rs (Nat × Tx)
  | 0, t, x => .inl (t, x)
  | n + 1, t, x => if K t = 0 then .inl (t, x) else bnd (telT K v nm x t) fun q => topT n q.1 q.2
end
def tx0 : Tx := ((0, fun _ => 0, fun _ => 0, fun _ => []), (0, fun _ => 0, fun _ => 0, fun _ => []), (0, fun _ => 0), (0, 0), (fun k => if k = 0 then plT0 else if k = 2 then plB0 else plG0), (0, 0))
/-! what is known of a reading -/
def okH : List Ins → Nat → Nat → Prop
  | [], h, h' => h = h'
  | q :: r, h, h' => okI q h ∧ okH r (if q.1 < 2 then h + 1 else h - 1) h'
theorem okH_app : ∀ {A B : List Ins} {h h1 h2 : Nat}, okH A h h1 → okH B h1 h2 → okH (A ++ B) h h2
  | [], B, h, h1, h2, a, b => by rw [show h = h1 from a]; exact b
  | q :: r, B, h, h1, h2, a, b => ⟨a.1, okH_app a.2 b⟩
theorem okH_Q : ∀ {A : List Ins} {h : Nat}, okH A h 1 → okQ A h
  | [], h, a => a
  | q :: r, h, a => ⟨a.1, okH_Q a.2⟩
/-- a step of reading: on it goes behind t, at most to 400; a fault is 1 or 2, from t on -/
def StepR {α : Type} (t : Nat) (pos : α → Nat) (x : Rs α) : Prop := (∀ a, x = .inl a → t < pos a ∧ pos a ≤ 400) ∧ ∀ c p, x = .inr (c, p) → (c = 1 ∨ c = 2) ∧ t ≤ p ∧ p ≤ 400
theorem go_st {t : Nat} (ht : t ≤ 400) : StepR t id (goT t) := by
  unfold goT
  by_cases h : t < 400
  · rw [if_pos h]
    refine ⟨fun a ha => ?_, fun c p h => by cases h⟩
    cases ha
    show t < t + 1 ∧ t + 1 ≤ 400
    omega
  · rw [if_neg h]
    refine ⟨fun a ha => (by cases ha), fun c p h => ?_⟩
    cases h
    exact ⟨Or.inr rfl, Nat.le_refl _, ht⟩
theorem eat_st (K : Nat → Nat) (w : Nat) {t : Nat} (ht : t ≤ 400) : StepR t id (eatT K w t) := by
  unfold eatT
  split
  · exact go_st ht
  · refine ⟨fun a ha => (by cases ha), fun c p h => ?_⟩
    cases h
    exact ⟨Or.inl rfl, Nat.le_refl _, ht⟩
theorem bnd_in {α β : Type} {x : Rs α} {f : α → Rs β} {b : β} (h : bnd x f = .inl b) : ∃ a, x = .inl a ∧ f a = .inl b := by
  cases x with
  | inl a => exact ⟨a, rfl, h⟩
  | inr e => cases h
theorem bnd_er {α β : Type} {x : Rs α} {f : α → Rs β} {e : Nat × Nat} (h : bnd x f = .inr e) : x = .inr e ∨ ∃ a, x = .inl a ∧ f a = .inr e := by
  cases x with
  | inl a => exact Or.inr ⟨a, rfl, h⟩
  | inr e' => exact Or.inl (by cases h; rfl)
theorem bnd_st {α β : Type} {t : Nat} {pa : α → Nat} {pb : β → Nat} {x : Rs α} {f : α → Rs β} (hx : StepR t pa x) (hf : ∀ a, x = .inl a → pa a ≤ 400 → t < pa a → (∀ b, f a = .inl b → pa a ≤ pb b ∧ pb b ≤ 400) ∧ ∀ c p, f a = .inr (c, p) → (c = 1 ∨ c = 2) ∧ pa a ≤ p ∧ p ≤ 400) : StepR t pb (bnd x f) := by
  refine ⟨fun b hb => ?_, fun c p hb => ?_⟩
  · obtain ⟨a, h1, h2⟩ := bnd_in hb
    have h3 := hx.1 a h1
    have h4 := (hf a h1 h3.2 h3.1).1 b h2
    omega
  · rcases bnd_er hb with h1 | ⟨a, h1, h2⟩
    · exact hx.2 c p h1
    · have h3 := hx.1 a h1
      have h4 := (hf a h1 h3.2 h3.1).2 c p h2
      exact ⟨h4.1, by omega, h4.2.2⟩
theorem StepR.wk {α : Type} {t : Nat} {pos : α → Nat} {x : Rs α} (h : StepR t pos x) : (∀ b, x = .inl b → t ≤ pos b ∧ pos b ≤ 400) ∧ ∀ c p, x = .inr (c, p) → (c = 1 ∨ c = 2) ∧ t ≤ p ∧ p ≤ 400 := ⟨fun b hb => by have := h.1 b hb; omega, h.2⟩
/-- an expression's reader: on, its code no longer than what was read -/
def ExpR (u : Nat → Rs (Nat × List Ins)) : Prop := ∀ t, t ≤ 400 → StepR t Prod.fst (u t) ∧ ∀ q, u t = .inl q → t + q.2.length ≤ q.1
theorem lvL_st {K o : Nat → Nat} {u : Nat → Rs (Nat × List Ins)} (hu : ExpR u) : ∀ n t C, t ≤ 400 → (∀ q, lvL K o u n t C = .inl q → t ≤ q.1 ∧ q.1 ≤ 400 ∧ t + q.2.length ≤ q.1 + C.length) ∧ ∀ c p, lvL K o u n t C = .inr (c, p) → (c = 1 ∨ c = 2) ∧ t ≤ p ∧ p ≤ 400
  | 0, t, C, ht => ⟨fun q hq => by cases hq; exact ⟨Nat.le_refl _, ht, Nat.le_refl _⟩, fun c p h => by cases h⟩
  | n + 1, t, C, ht => by
    rw [lvL]
    by_cases ho : o (K t) = 0
    · rw [if_pos ho]
      exact ⟨fun q hq => by cases hq; exact ⟨Nat.le_refl _, ht, Nat.le_refl _⟩, fun c p h => by cases h⟩
    · rw [if_neg ho]
      have h1 := go_st ht
      refine ⟨fun q hq => ?_, fun c p hq => ?_⟩
      · obtain ⟨t1, a1, a2⟩ := bnd_in hq
        have b1 : t < t1 ∧ t1 ≤ 400 := h1.1 t1 a1
        obtain ⟨q1, a3, a4⟩ := bnd_in a2
        obtain ⟨c1, c2⟩ := hu t1 b1.2
        have b2 := c1.1 q1 a3
        have b3 := c2 q1 a3
        have b4 := (lvL_st hu n q1.1 _ b2.2).1 q a4
        simp only [List.length_append, List.length_singleton] at b4
        omega
      · rcases bnd_er hq with a1 | ⟨t1, a1, a2⟩
        · exact h1.2 c p a1
        · have b1 : t < t1 ∧ t1 ≤ 400 := h1.1 t1 a1
          obtain ⟨c1, c2⟩ := hu t1 b1.2
          rcases bnd_er a2 with a3 | ⟨q1, a3, a4⟩
          · have := c1.2 c p a3
            exact ⟨this.1, by omega, this.2.2⟩
          · have b2 := c1.1 q1 a3
            have := (lvL_st hu n q1.1 _ b2.2).2 c p a4
            exact ⟨this.1, by omega, this.2.2⟩
theorem lvT_st {K o : Nat → Nat} {u : Nat → Rs (Nat × List Ins)} (hu : ExpR u) : ExpR (lvT K o u) := by
  intro t ht
  obtain ⟨c1, c2⟩ := hu t ht
  unfold lvT
  refine ⟨bnd_st c1 (fun q hq b1 b2 => ?_), fun q hq => ?_⟩
  · have h := lvL_st (K := K) (o := o) hu 400 q.1 q.2 b1
    exact ⟨fun b hb => ⟨(h.1 b hb).1, (h.1 b hb).2.1⟩, h.2⟩
  · obtain ⟨q1, a1, a2⟩ := bnd_in hq
    have b1 := c1.1 q1 a1
    have b2 := c2 q1 a1
    have b3 := (lvL_st (K := K) (o := o) hu 400 q1.1 q1.2 b1.2).1 q a2
    omega
theorem unA_st {K v : Nat → Nat} {t : Nat} {p : Rs (Nat × List Ins)} (ht : t ≤ 400) (hp : StepR t Prod.fst p ∧ ∀ q, p = .inl q → t + q.2.length ≤ q.1) : StepR t Prod.fst (unA K v t p) ∧ ∀ q, unA K v t p = .inl q → t + q.2.length ≤ q.1 := by
  have hg := go_st ht
  have h1 : ∀ z : Ins, StepR t Prod.fst (bnd (goT t) fun t1 => (.inl (t1, [z]) : Rs (Nat × List Ins))) ∧ ∀ q, (bnd (goT t) fun t1 => (.inl (t1, [z]) : Rs (Nat × List Ins))) = .inl q → t + q.2.length ≤ q.1 := fun z => by
    refine ⟨bnd_st hg (fun a ha b1 b2 => ⟨fun b hb => by cases hb; exact ⟨Nat.le_refl _, b1⟩, fun c p h => by cases h⟩), fun q hq => ?_⟩
    obtain ⟨t1, a1, a2⟩ := bnd_in hq
    cases a2
    exact (hg.1 t1 a1).1
  unfold unA
  split
  · exact h1 _
  · split
    · exact h1 _
    · split
      · exact hp
      · refine ⟨⟨fun a ha => (by cases ha), fun c p h => ?_⟩, fun q hq => by cases hq⟩
        cases h
        exact ⟨Or.inl rfl, Nat.le_refl _, ht⟩
theorem unT_st (K v : Nat → Nat) : ∀ r, ExpR (unT K v r)
  | 0 => fun t ht => by
    rw [unT]
    refine unA_st ht ⟨⟨fun a ha => (by cases ha), fun c p h => ?_⟩, fun q hq => by cases hq⟩
    cases h
    exact ⟨Or.inr rfl, Nat.le_refl _, ht⟩
  | r + 1 => fun t ht => by
    rw [unT]
    have hs := lvT_st (K := K) (o := oA) (lvT_st (K := K) (o := oM) (unT_st K v r))
    refine unA_st ht ⟨bnd_st (go_st ht) (fun t1 _ b1 _ => ?_), fun q hq => ?_⟩
    · exact (bnd_st (hs t1 b1).1 (fun q1 _ b3 _ => (bnd_st (pb := fun q : Nat × List Ins => q.1) (eat_st K 41 b3) (fun t2 _ b5 _ => ⟨fun b hb => by cases hb; exact ⟨Nat.le_refl _, b5⟩, fun c p h => by cases h⟩)).wk)).wk
    · obtain ⟨t1, a1, a2⟩ := bnd_in hq
      obtain ⟨q1, a3, a4⟩ := bnd_in a2
      obtain ⟨t2, a5, a6⟩ := bnd_in a4
      cases a6
      have b1 := (go_st ht).1 t1 a1
      have b2 := (hs t1 b1.2).1.1 q1 a3
      have b3 := (hs t1 b1.2).2 q1 a3
      have b4 := (eat_st K 41 b2.2).1 t2 a5
      show t + q1.2.length ≤ t2
      have b5 : t < t1 := b1.1
      have b6 : q1.1 < t2 := b4.1
      omega
theorem smT_st (K v : Nat → Nat) (r : Nat) : ExpR (smT K v r) := lvT_st (lvT_st (unT_st K v r))
theorem prT_st (K v : Nat → Nat) (r : Nat) : ExpR (prT K v r) := lvT_st (unT_st K v r)
/-! heights -/
def HgR (u : Nat → Rs (Nat × List Ins)) (m : Nat) : Prop := ∀ t q, u t = .inl q → ∀ h, h ≤ m → okH q.2 h (h + 1)
theorem lvL_h {K o : Nat → Nat} {u : Nat → Rs (Nat × List Ins)} {m : Nat} (hm : m ≤ 13) (ho : ∀ k, o k = 0 ∨ 2 ≤ o k ∧ o k ≤ 5) (hu : HgR u (m + 1)) : ∀ n t C h, h ≤ m → okH C h (h + 1) → ∀ q, lvL K o u n t C = .inl q → okH q.2 h (h + 1)
  | 0, t, C, h, _, hC, q, hq => by cases hq; exact hC
  | n + 1, t, C, h, hh, hC, q, hq => by
    rw [lvL] at hq
    by_cases h0 : o (K t) = 0
    · rw [if_pos h0] at hq
      cases hq
      exact hC
    · rw [if_neg h0] at hq
      obtain ⟨t1, a1, a2⟩ := bnd_in hq
      obtain ⟨q1, a3, a4⟩ := bnd_in a2
      have h1 := hu t1 q1 a3 (h + 1) (by omega)
      have h2 := (ho (K t)).resolve_left h0
      refine lvL_h hm ho hu n q1.1 _ h hh (okH_app hC (okH_app h1 ?_)) q a4
      refine ⟨?_, ?_⟩
      · unfold okI
        dsimp only
        split
        · omega
        · omega
        · exact ⟨by omega, by omega, h2.2⟩
      · show (if o (K t) < 2 then h + 1 + 1 + 1 else h + 1 + 1 - 1) = h + 1
        rw [if_neg (by omega)]
        omega
theorem lvT_h {K o : Nat → Nat} {u : Nat → Rs (Nat × List Ins)} {m : Nat} (hm : m ≤ 13) (ho : ∀ k, o k = 0 ∨ 2 ≤ o k ∧ o k ≤ 5) (hu : HgR u (m + 1)) : HgR (lvT K o u) m := by
  intro t q hq h hh
  unfold lvT at hq
  obtain ⟨q1, a1, a2⟩ := bnd_in hq
  exact lvL_h hm ho hu 400 q1.1 q1.2 h hh (hu t q1 a1 h (by omega)) q a2
theorem oM_r (k : Nat) : oM k = 0 ∨ 2 ≤ oM k ∧ oM k ≤ 5 := by
  unfold oM
  split
  · omega
  · split <;> omega
theorem oA_r (k : Nat) : oA k = 0 ∨ 2 ≤ oA k ∧ oA k ≤ 5 := by
  unfold oA
  split
  · omega
  · split <;> omega
theorem unT_h {K v : Nat → Nat} (hv : ∀ n, K n = 3 → v n < 10000) (hK : ∀ n, K n < 277) : ∀ r, r ≤ 6 → HgR (unT K v r) (14 - 2 * r) := by
  have atom : ∀ (t : Nat) (z : Ins) (q : Nat × List Ins), (bnd (goT t) fun t1 => (.inl (t1, [z]) : Rs (Nat × List Ins))) = .inl q → q.2 = [z] := fun t z q hq => by
    obtain ⟨t1, a1, a2⟩ := bnd_in hq
    cases a2
    rfl
  have base : ∀ (r t : Nat) (p : Rs (Nat × List Ins)) (q : Nat × List Ins), r ≤ 6 → unA K v t p = .inl q → (p = .inl q → ∀ h, h ≤ 14 - 2 * r → okH q.2 h (h + 1)) → ∀ h, h ≤ 14 - 2 * r → okH q.2 h (h + 1) := by
    intro r t p q hr hq hp h hh
    unfold unA at hq
    by_cases k3 : K t = 3
    · rw [if_pos k3] at hq
      rw [atom t _ q hq]
      exact ⟨⟨by omega, hv t k3⟩, rfl⟩
    · rw [if_neg k3] at hq
      by_cases k4 : 268 ≤ K t
      · rw [if_pos k4] at hq
        rw [atom t _ q hq]
        exact ⟨⟨by omega, by have := hK t; show K t - 268 < 9; omega⟩, rfl⟩
      · rw [if_neg k4] at hq
        by_cases k5 : K t = 40
        · rw [if_pos k5] at hq
          exact hp hq h hh
        · rw [if_neg k5] at hq
          cases hq
  intro r
  induction r with
  | zero =>
    intro _ t q hq
    rw [unT] at hq
    exact base 0 t _ q (by omega) hq (fun z => by cases z)
  | succ r ih =>
    intro hr t q hq
    rw [unT] at hq
    refine base (r + 1) t _ q hr hq (fun z h hh => ?_)
    obtain ⟨t1, a1, a2⟩ := bnd_in z
    obtain ⟨q1, a3, a4⟩ := bnd_in a2
    obtain ⟨t2, a5, a6⟩ := bnd_in a4
    cases a6
    have h1 : HgR (lvT K oM (unT K v r)) (13 - 2 * r) := lvT_h (by omega) oM_r (by rw [show 13 - 2 * r + 1 = 14 - 2 * r by omega]; exact ih (by omega))
    have h2 : HgR (lvT K oA (lvT K oM (unT K v r))) (12 - 2 * r) := lvT_h (by omega) oA_r (by rw [show 12 - 2 * r + 1 = 13 - 2 * r by omega]; exact h1)
    exact h2 t1 q1 a3 h (by omega)
theorem smT_ok {K v : Nat → Nat} (hv : ∀ n, K n = 3 → v n < 10000) (hK : ∀ n, K n < 277) {t : Nat} {q : Nat × List Ins} (h : smT K v 6 t = .inl q) : okQ q.2 0 := by
  have h0 := unT_h hv hK 6 (Nat.le_refl _)
  have h1 : HgR (lvT K oM (unT K v 6)) 1 := lvT_h (by omega) oM_r h0
  have h2 : HgR (lvT K oA (lvT K oM (unT K v 6))) 0 := lvT_h (by omega) oA_r h1
  exact okH_Q (h2 t q h 0 (Nat.le_refl _))

