/-! CALLS, 31: does -/
theorem arA_bl {g : Hp} {n : Nat} : (arA g n).bl = hE g 122 := id rfl
section H
variable {d : Nat} {h : Hp} {Q : Option AV → Hp → Prop}
/-- the class's heap where the parting begins -/
def dcH (h : Hp) (a : Nat) (lf mi2 : Int32) : Hp := sF (sF (sF h 13 a (hF h 79 64)) 14 a lf) 79 64 mi2
set_option maxHeartbeats 2000000 in
theorem InW_does {k nS nC nH nM i a nb kk : Nat} {zs : Nat → Nat} {mi2 : Int32} (I : InvN k nS nC nH nM h) (hi : i < nC) (ha : hQ h 78 i = some a) (hb : hE h 118 i = Int32.ofNat nb) (h8 : nb ≤ 8) (hbeg : hE h 116 i = -1) (hm2 : hF h 110 103 + mnI (hE h 113 i) (hE h 115 i) (hE h 118 i) = mi2) (ht : ¬ (12000 : Int32) < mi2)
    (hz : ∀ j, j < nb → hQ h (a + 2) j = some (zs j) ∧ 151 ≤ zs j ∧ zs j < hN h ∧ hS h (zs j) = (2, 0)) :
    InW k nS nC nH nM (mrg (shC (dcH h a (if hE h 113 i = 4 then 1 else 0) mi2) a zs nb) (gD h i nb)) ∧ okA i (arA (gD h i nb) nM) ∧ zA (hE (gD h i nb) 120) i (arA (gD h i nb) nM) := by
  obtain ⟨s, vN, vS, vF, vV, vC, vB, vR, vH, vL, vM, vP, vT, vX, vA, vK⟩ := I
  obtain ⟨c1, c2, c3, c4, c5, c6, c7, c8⟩ := id vC
  have ca := c4 i a ha
  obtain ⟨ca1, ca2, ca3, ca4, ca5, ca6, ca7, ca8, ca9, ca10, ca11, ca12, ca13, ca14, ca15, ca16⟩ := id ca
  obtain ⟨r1, r2, r3, r4, r5, r6, r7⟩ := c7 i hi
  obtain ⟨iv1, iv2, iv3, iv4, iv5⟩ := id vV
  have i30 : i < 30 := by omega
  have rb8 : Rng (hE h 118 i) 0 8 := by rw [hb, Rng, tn_i (by omega)]; omega
  obtain ⟨m1, m2⟩ := mn_r (k := hE h 113 i) r3 rb8
  obtain ⟨y1, y2⟩ := wy_r (k := hE h 113 i) r3
  obtain ⟨iv4a, iv4b⟩ := id iv4
  have mi2v : mi2.toInt = (hF h 110 103).toInt + (mnI (hE h 113 i) (hE h 115 i) (hE h 118 i)).toInt := by
    rw [← hm2, i_add (by omega) (by omega)]
  have mi2r : Rng mi2 0 12000 := by
    rw [i_lt] at ht
    have : (12000 : Int32).toInt = 12000 := rfl
    rw [Rng]; omega
  have inj : ∀ j j', j < nb → j' < nb → zs j = zs j' → j = j' := by
    intro j j' q1 q2 w
    have e1 := (hz j q1).1
    have e2 := (hz j' q2).1
    rw [w] at e1
    exact (vB.2.2.1 i i a a j j' (zs j') ha ha (by rw [qD_at (by omega)]; exact e1) (by rw [qD_at (by omega)]; exact e2)).2
  obtain ⟨h1, e1⟩ : ∃ h1, h1 = dcH h a (if hE h 113 i = 4 then 1 else 0) mi2 := ⟨_, rfl⟩
  obtain ⟨h2, e2⟩ : ∃ h2, h2 = shC h1 a zs nb := ⟨_, rfl⟩
  rw [← e1, ← e2]
  obtain ⟨t1, t2, t3, t4, t5, t6⟩ := shC_S (h := h1) (a := a) (zs := zs) nb
  rw [← e2] at t1 t2 t3 t4 t5 t6
  have u1 : hS h1 = hS h := by rw [e1]; unfold dcH; rw [xS_sF, xS_sF, xS_sF]
  have u2 : hG h1 = hG h := by rw [e1]; unfold dcH; rw [xG_sF, xG_sF, xG_sF]
  have u3 : hQ h1 = hQ h := by rw [e1]; unfold dcH; rw [xQ_sF, xQ_sF, xQ_sF]
  have u4 : hE h1 = hE h := by rw [e1]; unfold dcH; rw [xE_sF, xE_sF, xE_sF]
  have u5 : hN h1 = hN h := by rw [e1]; unfold dcH; rw [xN_sF, xN_sF, xN_sF]
  have u6 : hU h1 = hU h := by rw [e1]; unfold dcH; rw [xU_sF, xU_sF, xU_sF]
  have uF : ∀ f x, f ≠ 13 → f ≠ 14 → f ≠ 79 → hF h1 f x = hF h f x := by
    intro f x q1 q2 q3
    rw [e1]; unfold dcH
    rw [hF_sF, if_neg (fun w => q3 w.1), hF_sF, if_neg (fun w => q2 w.1), hF_sF, if_neg (fun w => q1 w.1)]
  have ub : hF h1 13 a = hF h 79 64 := by
    rw [e1]; unfold dcH
    rw [hF_sF, if_neg (fun w => absurd w.1 (by decide)), hF_sF, if_neg (fun w => absurd w.1 (by decide)), hF_sF, if_pos ⟨rfl, rfl⟩]
  have vS2 : hS h2 = hS h := t1.trans u1
  have vG2 : hG h2 = hG h := t2.trans u2
  have vQ2 : hQ h2 = hQ h := t3.trans u3
  have vE2 : hE h2 = hE h := t4.trans u4
  have vN2 : hN h2 = hN h := t5.trans u5
  have vU2 : hU h2 = hU h := t6.trans u6
  have vF2 : ∀ f, f ≠ 5 → f ≠ 6 → hF h2 f = hF h1 f := by
    intro f q1 q2
    funext x; rw [e2]; exact shC_F q1 q2 nb x
  have vF3 : ∀ f, f ≠ 5 → f ≠ 6 → f ≠ 13 → f ≠ 14 → f ≠ 79 → hF h2 f = hF h f := by
    intro f q1 q2 q3 q4 q5
    rw [vF2 f q1 q2]; funext x; exact uF f x q3 q4 q5
  have a64 : a ≠ 64 := by omega
  have z64' : ∀ j, j < nb → zs j ≠ 103 := fun j hj => by have := (hz j hj).2.1; omega
  have n103 : ∀ f, hF h2 f 103 = hF h f 103 := by
    intro f
    rw [e2, shC_ne nb (fun j hj => z64' j hj), e1]
    unfold dcH
    rw [hF_sF, if_neg (fun w => absurd w.2 (by decide)), hF_sF, if_neg (fun w => by have := w.2; omega), hF_sF, if_neg (fun w => by have := w.2; omega)]
  have hself : mrg h2 h = h2 := mrg_eq n103 (fun x _ _ => by rw [vE2])
  have qDe : qD h2 = qD h := by funext x; unfold qD; rw [vQ2]
  have eDe : eD h2 = eD h := by funext x; unfold eD; rw [vE2]
  -- the rows of the reference's side
  obtain ⟨R1, hR1⟩ : ∃ R1, R1 = shR (hE h 120) (shG (hF h 110 103) (hE h 113 i) (hE h 115 i) (hE h 119) (8 * i)) (8 * i) nb (hE h 121) := ⟨_, rfl⟩
  obtain ⟨R2, hR2⟩ : ∃ R2, R2 = shR (hE h 120) (fun _ => 10) (8 * i) nb (hE h 122) := ⟨_, rfl⟩
  have gR : gD h i nb = sF (roE (roE (sE (sE h 116 i (hF h 110 103)) 117 i (if hE h 113 i = 4 then 1 else 0)) 121 R1) 122 R2) 110 103 mi2 := by
    unfold gD shH
    rw [gB_F, gB_ne (x := 120) (by decide) (by decide), gB_ne (x := 113) (by decide) (by decide), gB_ne (x := 115) (by decide) (by decide), gB_ne (x := 119) (by decide) (by decide), gB_ne (x := 121) (by decide) (by decide), gB_ne (x := 122) (by decide) (by decide), ← hR1, ← hR2, hm2, gB]
  have shV_r : ∀ j, j < nb → 0 ≤ (hE h 119 (8 * i + j)).toInt ∧ (hE h 119 (8 * i + j)).toInt ≤ (hE h 115 i).toInt ∧ Rng (shG (hF h 110 103) (hE h 113 i) (hE h 115 i) (hE h 119) (8 * i) j) 0 13000 := by
    intro j hj
    have lt : Int32.ofNat j < hE h 118 i := by rw [hb, n_lt (by omega) (by omega)]; exact hj
    have d1 := (vB.2.2.2.1 i j hi (by omega) lt).1
    have d2 := vR.2.1 i j i30 (by omega) lt
    obtain ⟨d1a, d1b⟩ := d1
    obtain ⟨r3a, r3b⟩ := r3
    refine ⟨d1a, d2, ?_⟩
    unfold shG
    generalize hE h 119 (8 * i + j) = bd at d1a d1b d2 ⊢
    generalize hE h 115 i = dp at *
    have s1 : (dp - bd).toInt = dp.toInt - bd.toInt := i_sub (by omega) (by omega)
    have s2 : (dp - bd + 60).toInt = dp.toInt - bd.toInt + 60 := by rw [i_add (by rw [s1, ti_60]; omega) (by rw [s1, ti_60]; omega), s1, ti_60]
    have s3 : (dp - bd + 60 - 1).toInt = dp.toInt - bd.toInt + 59 := by rw [i_sub (by rw [s2, ti_1]; omega) (by rw [s2, ti_1]; omega), s2, ti_1]; omega
    have s4 : ((dp - bd + 60 - 1) / 60).toInt = (dp.toInt - bd.toInt + 59) / 60 := by rw [← s3]; exact dv_n (n := 60) (by omega) (by decide) (by decide)
    have s5 : (2 * Int32.ofNat j).toInt = 2 * (j : Int) := by rw [i_mul (by rw [ti_2, tn_i (by omega)]; omega) (by rw [ti_2, tn_i (by omega)]; omega), ti_2, tn_i (by omega)]
    generalize wyI (hE h 113 i) dp = wy at y1 y2 ⊢
    generalize hF h 110 103 = mi at iv4a iv4b ⊢
    have s6 : (mi + wy).toInt = mi.toInt + wy.toInt := i_add (by omega) (by omega)
    have s7 : (mi + wy + (dp - bd + 60 - 1) / 60).toInt = mi.toInt + wy.toInt + (dp.toInt - bd.toInt + 59) / 60 := by rw [i_add (by rw [s6, s4]; omega) (by rw [s6, s4]; omega), s6, s4]
    rw [Rng, i_add (by rw [s7, s5]; omega) (by rw [s7, s5]; omega), s7, s5]; omega
  have R1at : ∀ i2 j, j < 8 → R1 (8 * i2 + j) = if i2 = i ∧ j < nb ∧ hE h 120 (8 * i2 + j) = 0 then shG (hF h 110 103) (hE h 113 i) (hE h 115 i) (hE h 119) (8 * i) j else hE h 121 (8 * i2 + j) := by
    intro i2 j hj
    rw [hR1, shR_at]
    by_cases q : i2 = i ∧ j < nb ∧ hE h 120 (8 * i2 + j) = 0
    · rw [if_pos q, if_pos ⟨by omega, by omega, q.2.2⟩]
      congr 1; omega
    · rw [if_neg q, if_neg (by rintro ⟨w1, w2, w3⟩; exact q ⟨by omega, by omega, w3⟩)]
  have R2at : ∀ i2 j, j < 8 → R2 (8 * i2 + j) = if i2 = i ∧ j < nb ∧ hE h 120 (8 * i2 + j) = 0 then 10 else hE h 122 (8 * i2 + j) := by
    intro i2 j hj
    rw [hR2, shR_at]
    by_cases q : i2 = i ∧ j < nb ∧ hE h 120 (8 * i2 + j) = 0
    · rw [if_pos q, if_pos ⟨by omega, by omega, q.2.2⟩]
    · rw [if_neg q, if_neg (by rintro ⟨w1, w2, w3⟩; exact q ⟨by omega, by omega, w3⟩)]
  have hlt : ∀ j, j < 8 → (Int32.ofNat j < hE h 118 i ↔ j < nb) := fun j hj => by rw [hb, n_lt (by omega) (by omega)]
  have h2r : ∀ i2 j, i2 < nC → j < 8 → Int32.ofNat j < hE h 118 i2 → Rng (R1 (8 * i2 + j)) (-1) 13000 ∧ Rng (R2 (8 * i2 + j)) 0 10 ∧ (R2 (8 * i2 + j) ≠ 0 → 0 ≤ (R1 (8 * i2 + j)).toInt) := by
    intro i2 j q1 q2 q3
    rw [R1at i2 j q2, R2at i2 j q2]
    by_cases q : i2 = i ∧ j < nb ∧ hE h 120 (8 * i2 + j) = 0
    · rw [if_pos q, if_pos q]
      obtain ⟨w1, w2⟩ := (shV_r j q.2.1).2.2
      exact ⟨⟨by omega, w2⟩, by decide, fun _ => w1⟩
    · rw [if_neg q, if_neg q]
      exact (vB.2.2.2.1 i2 j q1 q2 q3).2.2
  have zero : ∀ j, j < 8 → hE h 122 (8 * i + j) = 0 := fun j hj => vR.2.2 i j i30 hj hbeg
  refine ⟨?_, ?_, ?_⟩
  · rw [gR, mrg_sFr, mrg_roE (by decide) (by decide), mrg_roE (by decide) (by decide), mrg_sEr (by decide) (by decide), mrg_sEr (by decide) (by decide), hself]
    simp only [InW, jN, jS, jF, jV, jC, jB, jR, jH, jL, jM, jP, jT, jX, jA, xN_sF, xU_sF, xS_sF, xG_sF, xE_sF, xQ_sF, xN_sG, xU_sG, xS_sG, xF_sG, xE_sG, xQ_sG, xN_sE, xU_sE, xS_sE, xF_sE, xG_sE, xQ_sE, xN_sQ, xU_sQ, xS_sQ, xF_sQ, xG_sQ, xE_sQ, xN_cpE, xU_cpE, xS_cpE, xF_cpE, xG_cpE, xQ_cpE, xN_nw, xU_nw, hF_sF_ne, hF_sF_at, hG_sG_ne, hG_sG_at, hE_sE_ne, hE_sE_at, hQ_sQ_ne, hQ_sQ_at, hE_cpE_ne, hE_cpE_at, St_sF, St_sE, St_sQ, eD_sF, eD_sG, eD_sQ, eD_sE, eD_cpE, qD_sF, qD_sG, qD_sE, qD_sQ, qD_cpE, true_and, and_true, true_or, or_true, or_false, false_or, ↓reduceIte, if_true, if_false, ne_eq, not_true_eq_false, not_false_eq_true, and_false, false_and, Nat.reduceEqDiff, Nat.reduceLeDiff, Nat.reduceLT, Nat.reduceAdd, Nat.reduceMul, Nat.reduceSub, Nat.reduceDiv, Nat.reduceMod, xN_roE, xU_roE, xS_roE, xF_roE, xG_roE, xQ_roE, hE_roE_ne, hE_roE_at, eD_roE, qD_roE, vS2, vG2, vQ2, vE2, vN2, vU2, vF3, qDe, eDe, n103]
    refine ⟨vN, vS, vF, ⟨iv1, iv2, ?_, mi2r, ?_⟩, ?_, ?_, ⟨vR.1, vR.2.1, fun i2 j q1 q2 q3 => ?_⟩, vH, vL, vM, vP, vT, vX, vA⟩
    · rw [vF2 _ (by decide) (by decide), e1]; unfold dcH; rw [hF_sF, if_pos ⟨rfl, rfl⟩]
    · exact iv5
    · refine iC_up (a := a) (i := i) vC ha (fun b hb => ⟨rfl, ?_, ?_, rfl⟩) (fun j hj => by simp only [xN_sF, xU_sF, xS_sF, xG_sF, xE_sF, xQ_sF, xN_sG, xU_sG, xS_sG, xF_sG, xE_sG, xQ_sG, xN_sE, xU_sE, xS_sE, xF_sE, xG_sE, xQ_sE, xN_sQ, xU_sQ, xS_sQ, xF_sQ, xG_sQ, xE_sQ, xN_cpE, xU_cpE, xS_cpE, xF_cpE, xG_cpE, xQ_cpE, xN_nw, xU_nw, hF_sF_ne, hF_sF_at, hG_sG_ne, hG_sG_at, hE_sE_ne, hE_sE_at, hQ_sQ_ne, hQ_sQ_at, hE_cpE_ne, hE_cpE_at, St_sF, St_sE, St_sQ, eD_sF, eD_sG, eD_sQ, eD_sE, eD_cpE, qD_sF, qD_sG, qD_sE, qD_sQ, qD_cpE, true_and, and_true, true_or, or_true, or_false, false_or, ↓reduceIte, if_true, if_false, ne_eq, not_true_eq_false, not_false_eq_true, and_false, false_and, Nat.reduceEqDiff, Nat.reduceLeDiff, Nat.reduceLT, Nat.reduceAdd, Nat.reduceMul, Nat.reduceSub, Nat.reduceDiv, Nat.reduceMod, hj, vE2, and_self]) ⟨ca13, ?_, ?_, ca16⟩ ?_
      · rw [vF2 _ (by decide) (by decide), e1]; unfold dcH
        rw [hF_sF, if_neg (fun w => absurd w.1 (by decide)), hF_sF, if_neg (fun w => absurd w.1 (by decide)), hF_sF, if_neg (fun w => hb w.2)]
      · rw [vF2 _ (by decide) (by decide), e1]; unfold dcH
        rw [hF_sF, if_neg (fun w => absurd w.1 (by decide)), hF_sF, if_neg (fun w => hb w.2), hF_sF, if_neg (fun w => hb w.2)]
      · rw [vF2 _ (by decide) (by decide), ub, iv3]; simp only [xN_sF, xU_sF, xS_sF, xG_sF, xE_sF, xQ_sF, xN_sG, xU_sG, xS_sG, xF_sG, xE_sG, xQ_sG, xN_sE, xU_sE, xS_sE, xF_sE, xG_sE, xQ_sE, xN_sQ, xU_sQ, xS_sQ, xF_sQ, xG_sQ, xE_sQ, xN_cpE, xU_cpE, xS_cpE, xF_cpE, xG_cpE, xQ_cpE, xN_nw, xU_nw, hF_sF_ne, hF_sF_at, hG_sG_ne, hG_sG_at, hE_sE_ne, hE_sE_at, hQ_sQ_ne, hQ_sQ_at, hE_cpE_ne, hE_cpE_at, St_sF, St_sE, St_sQ, eD_sF, eD_sG, eD_sQ, eD_sE, eD_cpE, qD_sF, qD_sG, qD_sE, qD_sQ, qD_cpE, true_and, and_true, true_or, or_true, or_false, false_or, ↓reduceIte, if_true, if_false, ne_eq, not_true_eq_false, not_false_eq_true, and_false, false_and, Nat.reduceEqDiff, Nat.reduceLeDiff, Nat.reduceLT, Nat.reduceAdd, Nat.reduceMul, Nat.reduceSub, Nat.reduceDiv, Nat.reduceMod]
      · rw [vF2 _ (by decide) (by decide), e1]; unfold dcH
        rw [hF_sF, if_neg (fun w => absurd w.1 (by decide)), hF_sF, if_pos ⟨rfl, rfl⟩]; simp only [xN_sF, xU_sF, xS_sF, xG_sF, xE_sF, xQ_sF, xN_sG, xU_sG, xS_sG, xF_sG, xE_sG, xQ_sG, xN_sE, xU_sE, xS_sE, xF_sE, xG_sE, xQ_sE, xN_sQ, xU_sQ, xS_sQ, xF_sQ, xG_sQ, xE_sQ, xN_cpE, xU_cpE, xS_cpE, xF_cpE, xG_cpE, xQ_cpE, xN_nw, xU_nw, hF_sF_ne, hF_sF_at, hG_sG_ne, hG_sG_at, hE_sE_ne, hE_sE_at, hQ_sQ_ne, hQ_sQ_at, hE_cpE_ne, hE_cpE_at, St_sF, St_sE, St_sQ, eD_sF, eD_sG, eD_sQ, eD_sE, eD_cpE, qD_sF, qD_sG, qD_sE, qD_sQ, qD_cpE, true_and, and_true, true_or, or_true, or_false, false_or, ↓reduceIte, if_true, if_false, ne_eq, not_true_eq_false, not_false_eq_true, and_false, false_and, Nat.reduceEqDiff, Nat.reduceLeDiff, Nat.reduceLT, Nat.reduceAdd, Nat.reduceMul, Nat.reduceSub, Nat.reduceDiv, Nat.reduceMod]
      · simp only [xN_sF, xU_sF, xS_sF, xG_sF, xE_sF, xQ_sF, xN_sG, xU_sG, xS_sG, xF_sG, xE_sG, xQ_sG, xN_sE, xU_sE, xS_sE, xF_sE, xG_sE, xQ_sE, xN_sQ, xU_sQ, xS_sQ, xF_sQ, xG_sQ, xE_sQ, xN_cpE, xU_cpE, xS_cpE, xF_cpE, xG_cpE, xQ_cpE, xN_nw, xU_nw, hF_sF_ne, hF_sF_at, hG_sG_ne, hG_sG_at, hE_sE_ne, hE_sE_at, hQ_sQ_ne, hQ_sQ_at, hE_cpE_ne, hE_cpE_at, St_sF, St_sE, St_sQ, eD_sF, eD_sG, eD_sQ, eD_sE, eD_cpE, qD_sF, qD_sG, qD_sE, qD_sQ, qD_cpE, true_and, and_true, true_or, or_true, or_false, false_or, ↓reduceIte, if_true, if_false, ne_eq, not_true_eq_false, not_false_eq_true, and_false, false_and, Nat.reduceEqDiff, Nat.reduceLeDiff, Nat.reduceLT, Nat.reduceAdd, Nat.reduceMul, Nat.reduceSub, Nat.reduceDiv, Nat.reduceMod]
        refine ⟨⟨by omega, iv4b⟩, ?_, r6, r7⟩
        by_cases e : hE h 113 i = 4
        · right; rw [if_pos e]
        · left; rw [if_neg e]
    · refine iB_sh vB (fun i2 a2 j z q1 q2 => ?_) h2r (fun i2 j q1 q2 q3 => ?_)
      · obtain ⟨d1, d2, d3, d4, d5, d6, d7, d8, d9⟩ := vB.1 i2 a2 j z q1 q2
        rw [R1at i2 j d2, R2at i2 j d2]
        by_cases w : i2 = i
        · subst w
          obtain rfl : a2 = a := by rw [ha] at q1; exact (Option.some.inj q1).symm
          have jn : j < nb := (hlt j d2).mp d1
          rw [qD_at (by omega), (hz j jn).1] at q2
          obtain rfl : zs j = z := Option.some.inj q2
          have hit := shC_hit (h := h1) (a := a2) inj nb (Nat.le_refl _) j jn
          rw [← e2, uF 4 _ (by decide) (by decide) (by decide), d7, uF 5 _ (by decide) (by decide) (by decide), uF 6 _ (by decide) (by decide) (by decide), d8, d9] at hit
          by_cases q : hE h 120 (8 * i2 + j) = 0
          · rw [if_pos ⟨rfl, jn, q⟩, if_pos ⟨rfl, jn, q⟩]
            rw [if_pos q, if_pos q] at hit
            refine ⟨hit.1.trans ?_, hit.2⟩
            unfold shV shG
            rw [ub, iv3, uF 8 _ (by decide) (by decide) (by decide), uF 10 _ (by decide) (by decide) (by decide), uF 3 _ (by decide) (by decide) (by decide), d6, ca10, ca12]
          · rw [if_neg (fun w => q w.2.2), if_neg (fun w => q w.2.2)]
            rw [if_neg q, if_neg q] at hit
            exact hit
        · rw [if_neg (fun v => w v.1), if_neg (fun v => w v.1)]
          have nz : ∀ j', j' < nb → zs j' ≠ z := by
            intro j' hj' v
            have := (hz j' hj').1
            rw [v] at this
            exact w (vB.2.2.1 i2 i a2 a j j' z q1 ha q2 (by rw [qD_at (by omega)]; exact this)).1
          rw [e2, shC_ne nb nz, shC_ne nb nz, uF 5 _ (by decide) (by decide) (by decide), uF 6 _ (by decide) (by decide) (by decide)]
          exact ⟨d8, d9⟩
      · rw [R2at i2 j q2]
        rw [if_neg]
        rintro ⟨w1, w2, -⟩
        subst w1
        rcases q3 with q3 | q3
        · omega
        · have := (hlt j q2).mpr w2
          rw [i_lt] at this; rw [i_le] at q3; omega
    · by_cases w : i2 = i
      · subst w
        simp only [xN_sF, xU_sF, xS_sF, xG_sF, xE_sF, xQ_sF, xN_sG, xU_sG, xS_sG, xF_sG, xE_sG, xQ_sG, xN_sE, xU_sE, xS_sE, xF_sE, xG_sE, xQ_sE, xN_sQ, xU_sQ, xS_sQ, xF_sQ, xG_sQ, xE_sQ, xN_cpE, xU_cpE, xS_cpE, xF_cpE, xG_cpE, xQ_cpE, xN_nw, xU_nw, hF_sF_ne, hF_sF_at, hG_sG_ne, hG_sG_at, hE_sE_ne, hE_sE_at, hQ_sQ_ne, hQ_sQ_at, hE_cpE_ne, hE_cpE_at, St_sF, St_sE, St_sQ, eD_sF, eD_sG, eD_sQ, eD_sE, eD_cpE, qD_sF, qD_sG, qD_sE, qD_sQ, qD_cpE, true_and, and_true, true_or, or_true, or_false, false_or, ↓reduceIte, if_true, if_false, ne_eq, not_true_eq_false, not_false_eq_true, and_false, false_and, Nat.reduceEqDiff, Nat.reduceLeDiff, Nat.reduceLT, Nat.reduceAdd, Nat.reduceMul, Nat.reduceSub, Nat.reduceDiv, Nat.reduceMod] at q3
        rw [q3] at iv4a
        exact absurd iv4a (by decide)
      · simp only [xN_sF, xU_sF, xS_sF, xG_sF, xE_sF, xQ_sF, xN_sG, xU_sG, xS_sG, xF_sG, xE_sG, xQ_sG, xN_sE, xU_sE, xS_sE, xF_sE, xG_sE, xQ_sE, xN_sQ, xU_sQ, xS_sQ, xF_sQ, xG_sQ, xE_sQ, xN_cpE, xU_cpE, xS_cpE, xF_cpE, xG_cpE, xQ_cpE, xN_nw, xU_nw, hF_sF_ne, hF_sF_at, hG_sG_ne, hG_sG_at, hE_sE_ne, hE_sE_at, hQ_sQ_ne, hQ_sQ_at, hE_cpE_ne, hE_cpE_at, St_sF, St_sE, St_sQ, eD_sF, eD_sG, eD_sQ, eD_sE, eD_cpE, qD_sF, qD_sG, qD_sE, qD_sQ, qD_cpE, true_and, and_true, true_or, or_true, or_false, false_or, ↓reduceIte, if_true, if_false, ne_eq, not_true_eq_false, not_false_eq_true, and_false, false_and, Nat.reduceEqDiff, Nat.reduceLeDiff, Nat.reduceLT, Nat.reduceAdd, Nat.reduceMul, Nat.reduceSub, Nat.reduceDiv, Nat.reduceMod, w, vE2] at q3
        rw [R2at i2 j q2, if_neg (fun v => w v.1)]
        exact vR.2.2 i2 j q1 q2 q3
  · refine ⟨vM.2.2.1, fun j hj => ?_⟩
    rw [arA_bl, gR, xE_sF, hE_roE_at, R2at i j hj]
    split
    · decide
    · rw [zero j hj]; decide
  · intro j hj hf
    rw [gR, xE_sF, hE_roE_ne (by decide), hE_roE_ne (by decide), hE_sE_ne (by decide), hE_sE_ne (by decide)] at hf
    rw [arA_bl, gR, xE_sF, hE_roE_at, R2at i j hj, if_neg (fun w => hf w.2.2)]
    exact zero j hj
end H
