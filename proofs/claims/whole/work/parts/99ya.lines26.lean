/-! LINES, 26: what the reading leaves as it was -/
def frQ (p : Nat) (h0 H : Hp) : Prop := hN H = hN h0 ∧ hU H = hU h0 ∧ hS H = hS h0 ∧ hG H = hG h0 ∧ hQ H = hQ h0 ∧ (∀ k, k < 20 ∨ (28 < k ∧ k < 31) ∨ (31 < k ∧ k < 34) ∨ (34 < k ∧ k < 85) ∨ (85 < k ∧ k < 125) ∨ (127 < k ∧ k < 131) ∨ (131 < k ∧ k < 134) ∨ 141 < k → hF H k = hF h0 k) ∧ (∀ a, a ≠ p → hF H 34 a = hF h0 34 a) ∧ ∀ a, a ≠ 82 → a ≠ 83 → a ≠ 84 → a ≠ 141 → a ≠ 142 → a ≠ p + 1 → a ≠ p + 2 → a ≠ p + 3 → hE H a = hE h0 a
theorem frQ_tr {p : Nat} {h h1 h2 : Hp} (g : frQ p h h1) (g2 : frQ p h1 h2) : frQ p h h2 := by
  obtain ⟨a1, a2, a3, a4, a5, a6, a7, a8⟩ := g
  obtain ⟨b1, b2, b3, b4, b5, b6, b7, b8⟩ := g2
  exact ⟨b1.trans a1, b2.trans a2, b3.trans a3, b4.trans a4, b5.trans a5, fun k q => (b6 k q).trans (a6 k q), fun a q => (b7 a q).trans (a7 a q), fun a q1 q2 q3 q4 q5 q6 q7 q8 => (b8 a q1 q2 q3 q4 q5 q6 q7 q8).trans (a8 a q1 q2 q3 q4 q5 q6 q7 q8)⟩
theorem frQ_T {p : Nat} {h h1 : Hp} (g : frT p h h1) (pp : p = 85 ∨ 151 ≤ p) : frQ p h h1 := by
  obtain ⟨a1, a2, a3, a4, a5, a6, a7⟩ := g
  refine ⟨a1, a2, a3, a4, a5, fun k q => ?_, fun a q => ?_, fun a q1 q2 q3 q4 q5 q6 q7 q8 => a7 a (fun w => ?_)⟩
  · funext a
    refine a6 k a (fun _ w => ?_) (fun _ w => ?_) <;> simp only [List.mem_cons, List.not_mem_nil, or_false] at w <;> omega
  · exact a6 34 a (fun _ w => by simp only [List.mem_cons, List.not_mem_nil, or_false] at w; omega) (fun w => absurd w q)
  · simp only [List.mem_cons, List.not_mem_nil, or_false] at w; omega
theorem frQ_Z {p : Nat} {h h1 : Hp} (g : frZ h h1) : frQ p h h1 := by
  obtain ⟨a1, a2, a3, a4, a5, a6, a7⟩ := g
  refine ⟨a1, a2, a3, a4, a5, fun k q => ?_, fun a q => ?_, fun a q1 q2 q3 q4 q5 q6 q7 q8 => a7 a (fun w => ?_)⟩
  · funext a
    refine a6 k a (fun _ w => ?_)
    simp only [List.mem_cons, List.not_mem_nil, or_false] at w; omega
  · exact a6 34 a (fun _ w => by simp only [List.mem_cons, List.not_mem_nil, or_false] at w; omega)
  · simp only [List.mem_cons, List.not_mem_nil, or_false] at w; omega
theorem frQ_st {p k a : Nat} {h : Hp} {v : Int32} (hk : k = 85 ∨ k = 131) : frQ p h (sF h k a v) := by
  refine ⟨xN_sF _ _ _ _, xU_sF _ _ _ _, xS_sF _ _ _ _, xG_sF _ _ _ _, xQ_sF _ _ _ _, fun f q => ?_, fun x q => ?_, fun x _ _ _ _ _ _ _ _ => by rw [xE_sF]⟩
  · funext x
    rw [hF_sF, if_neg (fun w => by omega)]
  · rw [hF_sF, if_neg (fun w => by omega)]
theorem InV_li {k nS nC nH nM p : Nat} {h0 H : Hp} (g : frQ p h0 H) (D : drS p h0) (hp : ∀ i a, hQ h0 79 i = some a → hG h0 18 a ≠ some p) (I : InvN k nS nC nH nM h0) : jN k nM H ∧ jS nS H ∧ jF H ∧ jC nC nS H ∧ jB nC H ∧ jR H ∧ jH nH H ∧ jL H ∧ jM nM nH nC H ∧ jP nM H ∧ (jX 0 H ∧ jX 1 H ∧ jX 2 H ∧ jX 3 H) ∧ jA H ∧ jK nS nC H := by
  obtain ⟨d1, d2, d3, d4, d5, d6, d7, d8, pp⟩ := D
  obtain ⟨g1, g2, g3, g4, g5, g6, g7, g8⟩ := g
  have E : ∀ a, a < 82 ∨ (88 < a ∧ a < 141) ∨ (142 < a ∧ a < 151) → hE H a = hE h0 a := fun a q => g8 a (by omega) (by omega) (by omega) (by omega) (by omega) (by omega) (by omega) (by omega)
  have DD : ∀ a, a ≠ p + 1 → a ≠ p + 2 → a ≠ p + 3 → eD H a = eD h0 a := by
    intro a q1 q2 q3
    funext j
    unfold eD
    by_cases c : a < 86 ∨ 89 ≤ a ∧ a < 151
    · rw [if_pos c, if_pos c]
    · rw [if_neg c, if_neg c, g8 a (by omega) (by omega) (by omega) (by omega) (by omega) q1 q2 q3]
  have D2 : qD H = qD h0 := by funext a; unfold qD; rw [g5]
  obtain ⟨s, vN, vS, vF, vV, vC, vB, vR, vH, vL, vM, vP, vT, vX, vA, vK⟩ := I
  refine ⟨?_, ?_, ?_, ?_, ?_, ?_, ?_, ?_, ?_, ?_, ?_, ?_, ?_⟩
  · simp only [jN, g1, g2]; exact vN
  · simp only [jS, E, g6, g1, g3, g5, Nat.reduceLT, and_true, and_false, true_and, false_and, or_true, true_or, or_false, false_or]; exact vS
  · simp only [jF, E, Nat.reduceLT, and_true, and_false, true_and, false_and, or_true, true_or, or_false, false_or]; exact vF
  · simp only [jC, E, g6, g1, g3, g4, g5, Nat.reduceLT, and_true, and_false, true_and, false_and, or_true, true_or, or_false, false_or]; exact vC
  · simp only [jB, E, g6, g1, g3, g4, g5, D2, Nat.reduceLT, and_true, and_false, true_and, false_and, or_true, true_or, or_false, false_or]; exact vB
  · simp only [jR, E, g5, Nat.reduceLT, and_true, and_false, true_and, false_and, or_true, true_or, or_false, false_or]
    refine ⟨?_, vR.2⟩
    intro i a j ha h1 h2
    have sh := (vC.2.2.2.1 i a ha).2.2.2.2.1
    have e : ∀ x, hS h0 x = (100, 160) ∨ hS h0 x = (100, 12) → a + 1 ≠ x := fun x q w => by
      rw [← w, sh] at q; rcases q with q | q <;> cases q
    rw [DD (a + 1) (e _ (Or.inl d2)) (e _ (Or.inr d3)) (e _ (Or.inr d4))]
    exact vR.1 i a j ha h1 h2
  · simp only [jH, E, g6, g1, g3, g4, g5, Nat.reduceLT, and_true, and_false, true_and, false_and, or_true, true_or, or_false, false_or]; exact vH
  · simp only [jL, E, g4, g5, Nat.reduceLT, and_true, and_false, true_and, false_and, or_true, true_or, or_false, false_or]
    intro i a x ha hx
    obtain ⟨q1, q2, q3, q4, q5, x', q6, q7⟩ := vH.2.2.2.1 i a ha
    rw [hx] at q6; cases q6
    obtain ⟨l1, l2, l3, l4, -⟩ := q7
    have ne : x ≠ p := fun w => hp i a ha (by rw [hx, w])
    have e1 : ∀ y z, hS h0 y = (100, 160) → hS h0 z = (100, 12) → y ≠ z := fun y z h1 h2 w => by rw [w, h2] at h1; cases h1
    have a1 := e1 _ _ l2 d3
    have a2 := e1 _ _ l2 d4
    have a3 := e1 _ _ d2 l3
    have a4 := e1 _ _ d2 l4
    rw [DD (x + 1) (by omega) a1 a2, DD (x + 2) (fun w => a3 w.symm) (by omega) (by omega), DD (x + 3) (fun w => a4 w.symm) (by omega) (by omega), g7 x ne]
    exact vL i a x ha hx
  · simp only [jM, E, g6, g1, g3, g4, g5, Nat.reduceLT, and_true, and_false, true_and, false_and, or_true, true_or, or_false, false_or]; exact vM
  · simp only [jP, E, Nat.reduceLT, and_true, and_false, true_and, false_and, or_true, true_or, or_false, false_or]; exact vP
  · simp only [jX, E, g6, Nat.reduceLT, Nat.reduceMul, Nat.reduceAdd, and_true, and_false, true_and, false_and, or_true, true_or, or_false, false_or]; exact vX
  · simp only [jA, E, g6, Nat.reduceLT, and_true, and_false, true_and, false_and, or_true, true_or, or_false, false_or]; exact vA
  · simp only [jK, E, g6, Nat.reduceLT, and_true, and_false, true_and, false_and, or_true, true_or, or_false, false_or]; exact vK
