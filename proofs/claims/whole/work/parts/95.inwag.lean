/-! NEW CELLS change nothing, along a cast -/
theorem InW_ag {k k' nS nC nH nM : Nat} {h h' : Hp} (hn0 : 151 ≤ hN h) (g : ag h h') (I : InW k nS nC nH nM h) (hn : jN k' nM h') : InW k' nS nC nH nM h' := by
  obtain ⟨vN, vS, vF, vV, vC, vB, vR, vH, vL, vM, vP, vT, vX, vA⟩ := I
  have k2 := g.2
  have E : ∀ a, a < 151 → hE h' a = hE h a := fun a ha => (k2 a (by omega)).2.2.2.1
  have F : ∀ k a, a < 151 → hF h' k a = hF h k a := fun k a ha => (k2 a (by omega)).2.1 k
  have G : ∀ k a, a < 151 → hG h' k a = hG h k a := fun k a ha => (k2 a (by omega)).2.2.1 k
  have R : ∀ a, a < 151 → hQ h' a = hQ h a := fun a ha => (k2 a (by omega)).2.2.2.2
  have eDD : ∀ a, a < hN h → eD h' a = eD h a := fun a ha => by funext j; unfold eD; rw [(k2 a ha).2.2.2.1]
  have qDD : ∀ a, a < hN h → qD h' a = qD h a := fun a ha => by funext j; unfold qD; rw [(k2 a ha).2.2.2.2]
  refine ⟨hn, ?_, ?_, ?_, ?_, ?_, ?_, ?_, ?_, ?_, ?_, ?_, ?_, ?_⟩
  · simp only [jS, E, F, R, Nat.reduceLT]
    exact iS_grow vS g.1 (fun a ha => ⟨(k2 a ha).1, (k2 a ha).2.1 _, (k2 a ha).2.1 _, (k2 a ha).2.1 _, (k2 a ha).2.1 _, (k2 a ha).2.1 _, (k2 a ha).2.1 _, (k2 a ha).2.1 _, (k2 a ha).2.1 _⟩)
  · simp only [jF, E, F, R, Nat.reduceLT]; exact vF
  · simp only [jV, E, F, R, Nat.reduceLT]; exact vV
  · simp only [jC, E, F, R, Nat.reduceLT]
    exact iC_grow vC g.1 (fun a ha => ⟨(k2 a ha).1, (k2 a ha).2.1 _, (k2 a ha).2.1 _, (k2 a ha).2.1 _, (k2 a ha).2.1 _, (k2 a ha).2.1 _, (k2 a ha).2.1 _, (k2 a ha).2.1 _, (k2 a ha).2.1 _, (k2 a ha).2.2.1 _, (k2 a ha).2.2.1 _⟩)
  · simp only [jB, E, F, R, Nat.reduceLT]
    exact iB_grow vB g.1 (fun i a ha => (vC.2.2.2.1 i a ha).2.2.1) (fun a ha => ⟨(k2 a ha).1, (k2 a ha).2.1 _, (k2 a ha).2.1 _, (k2 a ha).2.1 _, (k2 a ha).2.1 _, qDD a ha⟩)
  · simp only [jR, E, F, R, Nat.reduceLT]
    refine ⟨?_, vR.2⟩
    intro i a j ha h1 h2
    have := (vC.2.2.2.1 i a ha).2.2.1
    rw [eDD (a + 1) (show a + 1 < hN h by omega)]
    exact vR.1 i a j ha h1 h2
  · simp only [jH, E, F, G, R, Nat.reduceLT]
    exact iH_grow vH g.1 (fun a ha => ⟨(k2 a ha).1, (k2 a ha).2.2.1 _, (k2 a ha).2.2.1 _, (k2 a ha).2.2.1 _, (k2 a ha).2.1 _, (k2 a ha).2.2.1 _⟩)
  · simp only [jL, E, F, G, R, Nat.reduceLT]
    intro i a p ha hp
    obtain ⟨d1, d2, d3, d4, d5, p', d6, d7⟩ := vH.2.2.2.1 i a ha
    rw [(k2 a d3).2.2.1 _] at hp
    rw [d6] at hp; cases hp
    have d8 := d7.2.2.2.2.2.2.2.2
    rw [eDD (p + 1) (show p + 1 < hN h by omega), eDD (p + 2) (show p + 2 < hN h by omega), eDD (p + 3) (show p + 3 < hN h by omega), (k2 p (by omega)).2.1]
    exact vL i a p ha d6
  · simp only [jM, E, F, R, Nat.reduceLT]
    exact iM_grow vM g.1 (fun a ha => ⟨(k2 a ha).1, (k2 a ha).2.1 _, (k2 a ha).2.1 _, (k2 a ha).2.1 _, (k2 a ha).2.1 _, (k2 a ha).2.1 _, (k2 a ha).2.1 _, (k2 a ha).2.1 _⟩)
  · simp only [jP, E, F, R, Nat.reduceLT]; exact vP
  · simp only [jT, E, F, R, Nat.reduceLT]; exact vT
  · simp only [jX, E, F, R, Nat.reduceLT, Nat.reduceMul, Nat.reduceAdd]; exact vX
  · simp only [jA, E, F, R, Nat.reduceLT]; exact vA
