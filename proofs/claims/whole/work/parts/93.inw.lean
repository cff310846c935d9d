/-! THE INVARIANT while a cast is done, on the class's side -/
def InW (k nS nC nH nM : Nat) (h : Hp) : Prop :=
  jN k nM h ∧ jS nS h ∧ jF h ∧ jV h ∧ jC nC nS h ∧ jB nC h ∧ jR h ∧ jH nH h ∧ jL h ∧ jM nM nH nC h ∧ jP nM h ∧ jT h ∧ (jX 0 h ∧ jX 1 h ∧ jX 2 h ∧ jX 3 h) ∧ jA h
theorem InW_of {k nS nC nH nM : Nat} {h : Hp} (I : InvN k nS nC nH nM h) : InW k nS nC nH nM h := by
  obtain ⟨s, vN, vS, vF, vV, vC, vB, vR, vH, vL, vM, vP, vT, vX, vA, vK⟩ := I
  exact ⟨vN, vS, vF, vV, vC, vB, vR, vH, vL, vM, vP, vT, vX, vA⟩
theorem InW_to {k nS nC nH nM : Nat} {h : Hp} (s : St h) (I : InW k nS nC nH nM h) (vK : jK nS nC h) : InvN k nS nC nH nM h := by
  obtain ⟨vN, vS, vF, vV, vC, vB, vR, vH, vL, vM, vP, vT, vX, vA⟩ := I
  exact ⟨s, vN, vS, vF, vV, vC, vB, vR, vH, vL, vM, vP, vT, vX, vA, vK⟩
theorem InW_bv {k nS nC nH nM i : Nat} {v : Int32} {h : Hp} (I : InW k nS nC nH nM h) : InW k nS nC nH nM (sE h 89 i v) := by
  obtain ⟨vN, vS, vF, vV, vC, vB, vR, vH, vL, vM, vP, vT, vX, vA⟩ := I
  simp only [InW, jN, jS, jF, jV, jC, jB, jR, jH, jL, jM, jP, jT, jX, jA, xN_sF, xU_sF, xS_sF, xG_sF, xE_sF, xQ_sF, xN_sG, xU_sG, xS_sG, xF_sG, xE_sG, xQ_sG, xN_sE, xU_sE, xS_sE, xF_sE, xG_sE, xQ_sE, xN_sQ, xU_sQ, xS_sQ, xF_sQ, xG_sQ, xE_sQ, xN_cpE, xU_cpE, xS_cpE, xF_cpE, xG_cpE, xQ_cpE, xN_nw, xU_nw, hF_sF_ne, hF_sF_at, hG_sG_ne, hG_sG_at, hE_sE_ne, hE_sE_at, hQ_sQ_ne, hQ_sQ_at, hE_cpE_ne, hE_cpE_at, St_sF, St_sE, St_sQ, eD_sF, eD_sG, eD_sQ, eD_sE, eD_cpE, qD_sF, qD_sG, qD_sE, qD_sQ, qD_cpE, true_and, and_true, true_or, or_true, or_false, false_or, ↓reduceIte, if_true, if_false, ne_eq, not_true_eq_false, not_false_eq_true, and_false, false_and, Nat.reduceEqDiff, Nat.reduceLeDiff, Nat.reduceLT, Nat.reduceAdd, Nat.reduceMul, Nat.reduceSub, Nat.reduceDiv, Nat.reduceMod, Nat.le_refl]
  exact ⟨vN, vS, vF, vV, vC, vB, vR, vH, vL, vM, vP, vT, vX, vA⟩
theorem mrg_sE {h g : Hp} {a i : Nat} {v : Int32} (ha : a < 104 ∨ 151 ≤ a) : mrg (sE h a i v) g = sE (mrg h g) a i v := by
  refine hp_ext (by rw [xN_mrg, xN_sE, xN_sE, xN_mrg]) (by rw [xU_mrg, xU_sE, xU_sE, xU_mrg]) (by rw [xS_mrg, xS_sE, xS_sE, xS_mrg]) ?_ (by rw [xG_mrg, xG_sE, xG_sE, xG_mrg]) ?_ (by rw [xQ_mrg, xQ_sE, xQ_sE, xQ_mrg])
  · funext k x; rw [hF_mrg, xF_sE, xF_sE, hF_mrg]
  · funext x j; rw [hE_mrg, hE_sE, hE_sE, hE_mrg]
    by_cases e : 104 ≤ x ∧ x < 151
    · rw [if_pos e, if_neg (by omega), if_pos e]
    · rw [if_neg e, if_neg e]
theorem mrg_sF {h g : Hp} {k a : Nat} {v : Int32} (ha : a ≠ 103) : mrg (sF h k a v) g = sF (mrg h g) k a v := by
  refine hp_ext (by rw [xN_mrg, xN_sF, xN_sF, xN_mrg]) (by rw [xU_mrg, xU_sF, xU_sF, xU_mrg]) (by rw [xS_mrg, xS_sF, xS_sF, xS_mrg]) ?_ (by rw [xG_mrg, xG_sF, xG_sF, xG_mrg]) ?_ (by rw [xQ_mrg, xQ_sF, xQ_sF, xQ_mrg])
  · funext y x; rw [hF_mrg, hF_sF, hF_sF, hF_mrg]
    by_cases e : x = 103
    · rw [if_pos e, if_neg (fun w => ha (by rw [← w.2, e])), if_pos e]
    · rw [if_neg e, if_neg e]
  · funext x j; rw [hE_mrg, xE_sF, xE_sF, hE_mrg]
theorem InW_bvH {k nS nC nH nM a z : Nat} {h g : Hp} (I : InW k nS nC nH nM (mrg h g)) : InW k nS nC nH nM (mrg (bvH h a z) g) := by
  unfold bvH
  rw [mrg_sE (by decide), mrg_sE (by decide), mrg_sE (by decide), mrg_sE (by decide)]
  exact InW_bv (InW_bv (InW_bv (InW_bv I)))
