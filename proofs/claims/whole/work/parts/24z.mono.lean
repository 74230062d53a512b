theorem ab_Z_mono {M : ab_M} {d : Nat} {b : Nat × Nat} {Po Po' : Option Value → ab_H → Prop} {i : Nat} {L : ab_L} {st : List Value} {h : ab_H} (k : ab_Z M d b Po i L st h) (hp : ∀ v h, Po v h → Po' v h) : ab_Z M d b Po' i L st h := by
  intro p l e R s m args below meth c A D K as0 n0 mc ms fm X F as ls H locs cells slots Y hL hn hc hs
  have k' := k p l e R s m args below meth c A D K as0 n0 mc ms fm X F as ls H locs cells slots Y hL hn hc hs
  intro T hT X0
  obtain ⟨t, a1, o, b1, b2, ⟨⟨v, h', as', q1, q2⟩, q3⟩, b4⟩ := k' T hT X0
  exact ⟨t, a1, o, b1, b2, ⟨⟨v, h', as', hp _ _ q1, q2⟩, q3⟩, b4⟩
theorem ab_T_mono {g : ab_Sg} {d : Nat} {b : Nat × Nat} {vs : List Value} {h : ab_H} {Po Po' : Option Value → ab_H → Prop} (k : ab_T g d b vs h Po) (hp : ∀ v h, Po v h → Po' v h) : ab_T g d b vs h Po' := by
  intro l D K as sz fm X hwf
  have h1 := k l D K as sz fm X hwf
  intro p e ha hc hk s m args below hf happ hP hK
  obtain ⟨n, o, c1, c2, c3, ⟨⟨v, h', as', q1, q2⟩, q3⟩, c4⟩ := h1 p e ha hc hk s m args below hf happ hP hK
  exact ⟨n, o, c1, c2, c3, ⟨⟨v, h', as', hp _ _ q1, q2⟩, q3⟩, c4⟩
