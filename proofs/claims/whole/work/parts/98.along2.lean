/-! ALONG A CAST: a sample more -/
set_option maxHeartbeats 2000000 in
theorem InW_new {k nS nC nH i j a z p hd l nb : Nat} {h g : Hp} {A B : SA} {x P : Int32} (h151 : 151 ≤ hN h) (I : InW k nS nC nH A.nM (mrg h (moE g A))) (ha : hQ h 78 i = some a) (hz : hQ h (a + 2) j = some z) (hb : hE g 118 i = Int32.ofNat nb) (h8 : nb ≤ 8) (hj : j < nb) (hdH : hd < nH) (h250 : A.nM < 250) (hbeg : hE g 116 i ≠ -1)
    (hx : imin (hE h (p + 3) l) (hF h 6 z) = x) (hlf : hF h 6 z = A.bl (8 * i + j)) (rx : Rng x 1 10) (rb : Rng (A.bl (8 * i + j) - x) 0 10) (hsh : 0 ≤ (hE g 121 (8 * i + j)).toInt)
    (hP : fhN (fun p => decide (hE h 91 p = -1)) 0 60 = P)
    (b1 : B.nM = A.nM + 1) (b2 : B.bl = upR A.bl (8 * i + j) (A.bl (8 * i + j) - x)) (b3 : B.eh = upR A.eh A.nM (Int32.ofNat hd)) (b4 : B.ec = upR A.ec A.nM (Int32.ofNat i)) (b5 : B.eb = upR A.eb A.nM (Int32.ofNat j)) (b6 : B.ep = upR A.ep A.nM x) (b7 : B.epl = upR A.epl A.nM P) (b8 : B.est = upR A.est A.nM 0) (b9 : B.el = upR A.el A.nM (Int32.ofNat l)) :
    InW k nS nC nH (A.nM + 1) (mrg (tcH h a z p j hd l A.nM) (moE g B)) := by
  have fr := fhN_r (f := fun p => decide (hE h 91 p = -1)) 60 0 (by decide)
  obtain ⟨m, hm⟩ : ∃ m, m = mrg h (moE g A) := ⟨_, rfl⟩
  rw [← hm] at I
  have mN : hN m = hN h := by rw [hm, xN_mrg]
  have m151 : 151 ≤ hN m := by rw [mN]; exact h151
  obtain ⟨c, hc⟩ : ∃ c, c = hF h 7 a := ⟨_, rfl⟩
  obtain ⟨w, hw⟩ : ∃ w, w = nSa m (Int32.ofNat hd) c (Int32.ofNat j) := ⟨_, rfl⟩
  have G : ag m w := by rw [hw]; exact ag_nSa m (Int32.ofNat hd) c (Int32.ofNat j)
  obtain ⟨n1, n2, n3, n4, n5, n6, n7, n8, n9, n10⟩ := nSa_at m (Int32.ofNat hd) c (Int32.ofNat j)
  rw [← hw] at n1 n2 n3 n4 n5 n6 n7 n8 n9 n10
  obtain ⟨iv1, iv2⟩ := id I.1
  have I2 : InW (k + 1) nS nC nH A.nM w := InW_ag m151 G I ⟨by rw [n1]; omega, by rw [n2]; omega⟩
  obtain ⟨vN, vS, vF, vV, vC, vB, vR, vH, vL, vM, vP, vT, vX, vA⟩ := I
  obtain ⟨uN, uS, uF, uV, uC, uB, uR, uH, uL, uM, uP, uT, uX, uA⟩ := I2
  have ev : mrg (nSa h (Int32.ofNat hd) c (Int32.ofNat j)) (moE g B) = moE w B := by
    rw [hw, hm, ← mrg_nSa h151, mrg_mo, mrg_mo, mo_mo]
  have e122 : hE m 122 = A.bl := by rw [hm, mrg_E1 (by decide) (by decide), mo_bl]
  have e129 : hE m 129 = A.eh := by rw [hm, mrg_E1 (by decide) (by decide), mo_eh]
  have e130 : hE m 130 = A.ec := by rw [hm, mrg_E1 (by decide) (by decide), mo_ec]
  have e131 : hE m 131 = A.eb := by rw [hm, mrg_E1 (by decide) (by decide), mo_eb]
  have e132 : hE m 132 = A.ep := by rw [hm, mrg_E1 (by decide) (by decide), mo_ep]
  have e133 : hE m 133 = A.epl := by rw [hm, mrg_E1 (by decide) (by decide), mo_epl]
  have e134 : hE m 134 = A.est := by rw [hm, mrg_E1 (by decide) (by decide), mo_est]
  have e135 : hE m 135 = A.el := by rw [hm, mrg_E1 (by decide) (by decide), mo_el]
  have e91 : hE m 91 = hE h 91 := by rw [hm, mrg_E2 (by decide)]
  have e116 : hE m 116 = hE g 116 := by rw [hm, mrg_E1 (by decide) (by decide), mo_ne (by decide) (by decide)]
  have e118 : hE m 118 = hE g 118 := by rw [hm, mrg_E1 (by decide) (by decide), mo_ne (by decide) (by decide)]
  have e121 : hE m 121 = hE g 121 := by rw [hm, mrg_E1 (by decide) (by decide), mo_ne (by decide) (by decide)]
  have q78 : hQ m 78 i = some a := by rw [hm, xQ_mrg]; exact ha
  have vCa := vC.2.2.2.1 i a q78
  obtain ⟨ci, ca, ca2, -⟩ := id vCa
  have qz : qD m (a + 2) j = some z := by rw [qD_at (by omega), hm, xQ_mrg]; exact hz
  obtain ⟨-, zj, z151, zN, zS, -⟩ := vB.1 i a j z q78 qz
  have cH : hF m 7 a = c := by rw [hm, mrg_F2 (by omega), hc]
  have cI : c = Int32.ofNat i := by rw [← cH]; exact vCa.2.2.2.2.2.2.2.2.1
  have kk := G.2
  have w78 : hQ w 78 = hQ m 78 := (kk 78 (by omega)).2.2.2.2
  have w90 : hQ w 90 = hQ m 90 := (kk 90 (by omega)).2.2.2.2
  have wE : ∀ x, x < 151 → hE w x = hE m x := fun x hx => (kk x (by omega)).2.2.2.1
  have wz : qD w (a + 2) j = some z := by rw [qD_at (by omega), (kk (a + 2) (by omega)).2.2.2.2, ← qD_at (by omega)]; exact qz
  have hna : ∀ i, hQ m 90 i ≠ some (hN m) := by
    intro i' w'
    have := (vM.2.2.2.1 i' _ w').2.2.1
    omega
  have vM' : iM A.nM nH nC (hF m 81 64) (hF m 116 103) (hQ m 90) (hS m) (hN m) (hF m 50) (hF m 51) (hF m 52) (hF m 53) (hF m 54) (hF m 55) (hF m 56) A.eh A.ec A.eb A.ep A.el A.epl A.est (hE m 118) := by
    rw [← e129, ← e130, ← e131, ← e132, ← e133, ← e134, ← e135]; exact vM
  have vP' : iP A.nM (hE m 91) A.epl A.est := by rw [← e133, ← e134]; exact vP
  have rP : Rng P (-1) 59 := by
    rw [← hP]
    rcases fr with ⟨e, -⟩ | ⟨p0, -, p1, e, -⟩
    · rw [e]; decide
    · rw [e, Rng, tn_i (by omega)]; omega
  have N64 : (64 = hN m) = False := eq_false (by omega)
  have zN2 : (z = hN m) = False := eq_false (by omega)
  have z103 : z ≠ 103 := by omega
  have N103 : hN h ≠ 103 := by omega
  unfold tcH
  rw [hx, hlf, ← hc, hP]
  rw [hP] at fr
  rcases fr with ⟨e, -⟩ | ⟨p0, -, p1, e, p2, -⟩
  · rw [if_pos e, mrg_sF (by decide), mrg_sQ, mrg_sF N103, mrg_sF z103, mrg_sF N103, mrg_sF N103, ev, ← mN]
    unfold moE
    simp only [InW, jN, jS, jF, jV, jC, jB, jR, jH, jL, jM, jP, jT, jX, jA, xN_sF, xU_sF, xS_sF, xG_sF, xE_sF, xQ_sF, xN_sG, xU_sG, xS_sG, xF_sG, xE_sG, xQ_sG, xN_sE, xU_sE, xS_sE, xF_sE, xG_sE, xQ_sE, xN_sQ, xU_sQ, xS_sQ, xF_sQ, xG_sQ, xE_sQ, xN_cpE, xU_cpE, xS_cpE, xF_cpE, xG_cpE, xQ_cpE, xN_nw, xU_nw, hF_sF_ne, hF_sF_at, hG_sG_ne, hG_sG_at, hE_sE_ne, hE_sE_at, hQ_sQ_ne, hQ_sQ_at, hE_cpE_ne, hE_cpE_at, St_sF, St_sE, St_sQ, eD_sF, eD_sG, eD_sQ, eD_sE, eD_cpE, qD_sF, qD_sG, qD_sE, qD_sQ, qD_cpE, true_and, and_true, true_or, or_true, or_false, false_or, ↓reduceIte, if_true, if_false, ne_eq, not_true_eq_false, not_false_eq_true, and_false, false_and, Nat.reduceEqDiff, Nat.reduceLeDiff, Nat.reduceLT, Nat.reduceAdd, Nat.reduceMul, Nat.reduceSub, Nat.reduceDiv, Nat.reduceMod, xN_roE, xU_roE, xS_roE, xF_roE, xG_roE, xQ_roE, hE_roE_ne, hE_roE_at, eD_roE, qD_roE, b1, b2, b3, b4, b5, b6, b7, b8, b9]
    refine ⟨⟨by rw [n1]; omega, by rw [n2]; omega⟩, uS, uF, uV, uC, ?_, ⟨uR.1, uR.2.1, fun i2 j2 q1 q2 q3 => ?_⟩, uH, uL, ?_, ?_, uT, uX, uA⟩
    · refine iB_less (i := i) (a := a) (j := j) (z := z) (nb := nb) uB (by rw [w78]; exact q78) ci wz (by rw [wE 118 (by decide), e118]; exact hb) h8 hj (fun i2 a2 q => (uC.2.2.2.1 i2 a2 q).1) ?_ (fun y hy => ?_) (fun y hy => ?_) ?_ ?_
      · simp only [xN_sF, xU_sF, xS_sF, xG_sF, xE_sF, xQ_sF, xN_sG, xU_sG, xS_sG, xF_sG, xE_sG, xQ_sG, xN_sE, xU_sE, xS_sE, xF_sE, xG_sE, xQ_sE, xN_sQ, xU_sQ, xS_sQ, xF_sQ, xG_sQ, xE_sQ, xN_cpE, xU_cpE, xS_cpE, xF_cpE, xG_cpE, xQ_cpE, xN_nw, xU_nw, hF_sF_ne, hF_sF_at, hG_sG_ne, hG_sG_at, hE_sE_ne, hE_sE_at, hQ_sQ_ne, hQ_sQ_at, hE_cpE_ne, hE_cpE_at, St_sF, St_sE, St_sQ, eD_sF, eD_sG, eD_sQ, eD_sE, eD_cpE, qD_sF, qD_sG, qD_sE, qD_sQ, qD_cpE, true_and, and_true, true_or, or_true, or_false, false_or, ↓reduceIte, if_true, if_false, ne_eq, not_true_eq_false, not_false_eq_true, and_false, false_and, Nat.reduceEqDiff, Nat.reduceLeDiff, Nat.reduceLT, Nat.reduceAdd, Nat.reduceMul, Nat.reduceSub, Nat.reduceDiv, Nat.reduceMod, upR_at]
      · simp only [xN_sF, xU_sF, xS_sF, xG_sF, xE_sF, xQ_sF, xN_sG, xU_sG, xS_sG, xF_sG, xE_sG, xQ_sG, xN_sE, xU_sE, xS_sE, xF_sE, xG_sE, xQ_sE, xN_sQ, xU_sQ, xS_sQ, xF_sQ, xG_sQ, xE_sQ, xN_cpE, xU_cpE, xS_cpE, xF_cpE, xG_cpE, xQ_cpE, xN_nw, xU_nw, hF_sF_ne, hF_sF_at, hG_sG_ne, hG_sG_at, hE_sE_ne, hE_sE_at, hQ_sQ_ne, hQ_sQ_at, hE_cpE_ne, hE_cpE_at, St_sF, St_sE, St_sQ, eD_sF, eD_sG, eD_sQ, eD_sE, eD_cpE, qD_sF, qD_sG, qD_sE, qD_sQ, qD_cpE, true_and, and_true, true_or, or_true, or_false, false_or, ↓reduceIte, if_true, if_false, ne_eq, not_true_eq_false, not_false_eq_true, and_false, false_and, Nat.reduceEqDiff, Nat.reduceLeDiff, Nat.reduceLT, Nat.reduceAdd, Nat.reduceMul, Nat.reduceSub, Nat.reduceDiv, Nat.reduceMod, hy, xF_roE]
      · rw [upR_ne hy, wE 122 (by decide), e122]
      · rw [upR_at]; exact rb
      · rw [wE 121 (by decide), e121]; exact hsh
    · by_cases e2 : 8 * i2 + j2 = 8 * i + j
      · obtain rfl : i2 = i := by omega
        rw [wE 116 (by decide), e116] at q3
        exact absurd q3 hbeg
      · rw [upR_ne e2]
        have := uR.2.2 i2 j2 q1 q2 q3
        rwa [wE 122 (by decide), e122] at this
    · rw [wE 118 (by decide)]
      refine iM_add (a := hN m) (q := hQ m 90) (iM_grow vM' (by omega) (fun y hy => ?_)) h250 ?_ (fun y hy => ?_) hna ⟨m151, by omega, n3⟩ (fun y hy => ⟨upR_ne hy, upR_ne hy, upR_ne hy, upR_ne hy, upR_ne hy, upR_ne hy, upR_ne hy⟩) ?_ (upR_at _ _ _) ?_
      · have ny : y ≠ hN m := by omega
        simp only [xN_sF, xU_sF, xS_sF, xG_sF, xE_sF, xQ_sF, xN_sG, xU_sG, xS_sG, xF_sG, xE_sG, xQ_sG, xN_sE, xU_sE, xS_sE, xF_sE, xG_sE, xQ_sE, xN_sQ, xU_sQ, xS_sQ, xF_sQ, xG_sQ, xE_sQ, xN_cpE, xU_cpE, xS_cpE, xF_cpE, xG_cpE, xQ_cpE, xN_nw, xU_nw, hF_sF_ne, hF_sF_at, hG_sG_ne, hG_sG_at, hE_sE_ne, hE_sE_at, hQ_sQ_ne, hQ_sQ_at, hE_cpE_ne, hE_cpE_at, St_sF, St_sE, St_sQ, eD_sF, eD_sG, eD_sQ, eD_sE, eD_cpE, qD_sF, qD_sG, qD_sE, qD_sQ, qD_cpE, true_and, and_true, true_or, or_true, or_false, false_or, ↓reduceIte, if_true, if_false, ne_eq, not_true_eq_false, not_false_eq_true, and_false, false_and, Nat.reduceEqDiff, Nat.reduceLeDiff, Nat.reduceLT, Nat.reduceAdd, Nat.reduceMul, Nat.reduceSub, Nat.reduceDiv, Nat.reduceMod, ny, xF_roE]
        exact ⟨(kk y hy).1, (kk y hy).2.1 _, (kk y hy).2.1 _, (kk y hy).2.1 _, (kk y hy).2.1 _, (kk y hy).2.1 _, (kk y hy).2.1 _, (kk y hy).2.1 _⟩
      · simp only [xN_sF, xU_sF, xS_sF, xG_sF, xE_sF, xQ_sF, xN_sG, xU_sG, xS_sG, xF_sG, xE_sG, xQ_sG, xN_sE, xU_sE, xS_sE, xF_sE, xG_sE, xQ_sE, xN_sQ, xU_sQ, xS_sQ, xF_sQ, xG_sQ, xE_sQ, xN_cpE, xU_cpE, xS_cpE, xF_cpE, xG_cpE, xQ_cpE, xN_nw, xU_nw, hF_sF_ne, hF_sF_at, hG_sG_ne, hG_sG_at, hE_sE_ne, hE_sE_at, hQ_sQ_ne, hQ_sQ_at, hE_cpE_ne, hE_cpE_at, St_sF, St_sE, St_sQ, eD_sF, eD_sG, eD_sQ, eD_sE, eD_cpE, qD_sF, qD_sG, qD_sE, qD_sQ, qD_cpE, true_and, and_true, true_or, or_true, or_false, false_or, ↓reduceIte, if_true, if_false, ne_eq, not_true_eq_false, not_false_eq_true, and_false, false_and, Nat.reduceEqDiff, Nat.reduceLeDiff, Nat.reduceLT, Nat.reduceAdd, Nat.reduceMul, Nat.reduceSub, Nat.reduceDiv, Nat.reduceMod]
      · simp only [xN_sF, xU_sF, xS_sF, xG_sF, xE_sF, xQ_sF, xN_sG, xU_sG, xS_sG, xF_sG, xE_sG, xQ_sG, xN_sE, xU_sE, xS_sE, xF_sE, xG_sE, xQ_sE, xN_sQ, xU_sQ, xS_sQ, xF_sQ, xG_sQ, xE_sQ, xN_cpE, xU_cpE, xS_cpE, xF_cpE, xG_cpE, xQ_cpE, xN_nw, xU_nw, hF_sF_ne, hF_sF_at, hG_sG_ne, hG_sG_at, hE_sE_ne, hE_sE_at, hQ_sQ_ne, hQ_sQ_at, hE_cpE_ne, hE_cpE_at, St_sF, St_sE, St_sQ, eD_sF, eD_sG, eD_sQ, eD_sE, eD_cpE, qD_sF, qD_sG, qD_sE, qD_sQ, qD_cpE, true_and, and_true, true_or, or_true, or_false, false_or, ↓reduceIte, if_true, if_false, ne_eq, not_true_eq_false, not_false_eq_true, and_false, false_and, Nat.reduceEqDiff, Nat.reduceLeDiff, Nat.reduceLT, Nat.reduceAdd, Nat.reduceMul, Nat.reduceSub, Nat.reduceDiv, Nat.reduceMod, hy, xQ_roE, w90]
      · simp only [xN_sF, xU_sF, xS_sF, xG_sF, xE_sF, xQ_sF, xN_sG, xU_sG, xS_sG, xF_sG, xE_sG, xQ_sG, xN_sE, xU_sE, xS_sE, xF_sE, xG_sE, xQ_sE, xN_sQ, xU_sQ, xS_sQ, xF_sQ, xG_sQ, xE_sQ, xN_cpE, xU_cpE, xS_cpE, xF_cpE, xG_cpE, xQ_cpE, xN_nw, xU_nw, hF_sF_ne, hF_sF_at, hG_sG_ne, hG_sG_at, hE_sE_ne, hE_sE_at, hQ_sQ_ne, hQ_sQ_at, hE_cpE_ne, hE_cpE_at, St_sF, St_sE, St_sQ, eD_sF, eD_sG, eD_sQ, eD_sE, eD_cpE, qD_sF, qD_sG, qD_sE, qD_sQ, qD_cpE, true_and, and_true, true_or, or_true, or_false, false_or, ↓reduceIte, if_true, if_false, ne_eq, not_true_eq_false, not_false_eq_true, and_false, false_and, Nat.reduceEqDiff, Nat.reduceLeDiff, Nat.reduceLT, Nat.reduceAdd, Nat.reduceMul, Nat.reduceSub, Nat.reduceDiv, Nat.reduceMod, upR_at]
        exact ⟨n4, n5.trans cI, n6, n10⟩
      · simp only [upR_at]
        exact ⟨⟨hd, hdH, rfl⟩, ⟨i, j, ci, zj, rfl, rfl, by rw [e118, hb, n_lt (by omega) (by omega)]; exact hj⟩, rx, rP⟩
    · refine iP_add h250 vP' (fun y hy => ⟨upR_ne hy, upR_ne hy⟩) (upR_at _ _ _) (Or.inl ⟨by rw [upR_at]; exact e, fun y hy => by rw [wE 91 (by decide)]⟩)
  · have tp : P.toNatClampNeg = p0 := by rw [e]; exact tn_c (by omega)
    have ne : ¬ P = -1 := by rw [e]; exact n_m1 (by omega)
    rw [if_neg ne, tp, mrg_sF (by decide), mrg_sQ, mrg_sE (by decide), mrg_sF N103, mrg_sF z103, mrg_sF N103, mrg_sF N103, ev, ← mN]
    unfold moE
    simp only [InW, jN, jS, jF, jV, jC, jB, jR, jH, jL, jM, jP, jT, jX, jA, xN_sF, xU_sF, xS_sF, xG_sF, xE_sF, xQ_sF, xN_sG, xU_sG, xS_sG, xF_sG, xE_sG, xQ_sG, xN_sE, xU_sE, xS_sE, xF_sE, xG_sE, xQ_sE, xN_sQ, xU_sQ, xS_sQ, xF_sQ, xG_sQ, xE_sQ, xN_cpE, xU_cpE, xS_cpE, xF_cpE, xG_cpE, xQ_cpE, xN_nw, xU_nw, hF_sF_ne, hF_sF_at, hG_sG_ne, hG_sG_at, hE_sE_ne, hE_sE_at, hQ_sQ_ne, hQ_sQ_at, hE_cpE_ne, hE_cpE_at, St_sF, St_sE, St_sQ, eD_sF, eD_sG, eD_sQ, eD_sE, eD_cpE, qD_sF, qD_sG, qD_sE, qD_sQ, qD_cpE, true_and, and_true, true_or, or_true, or_false, false_or, ↓reduceIte, if_true, if_false, ne_eq, not_true_eq_false, not_false_eq_true, and_false, false_and, Nat.reduceEqDiff, Nat.reduceLeDiff, Nat.reduceLT, Nat.reduceAdd, Nat.reduceMul, Nat.reduceSub, Nat.reduceDiv, Nat.reduceMod, xN_roE, xU_roE, xS_roE, xF_roE, xG_roE, xQ_roE, hE_roE_ne, hE_roE_at, eD_roE, qD_roE, b1, b2, b3, b4, b5, b6, b7, b8, b9]
    refine ⟨⟨by rw [n1]; omega, by rw [n2]; omega⟩, uS, uF, uV, uC, ?_, ⟨uR.1, uR.2.1, fun i2 j2 q1 q2 q3 => ?_⟩, uH, uL, ?_, ?_, uT, uX, uA⟩
    · refine iB_less (i := i) (a := a) (j := j) (z := z) (nb := nb) uB (by rw [w78]; exact q78) ci wz (by rw [wE 118 (by decide), e118]; exact hb) h8 hj (fun i2 a2 q => (uC.2.2.2.1 i2 a2 q).1) ?_ (fun y hy => ?_) (fun y hy => ?_) ?_ ?_
      · simp only [xN_sF, xU_sF, xS_sF, xG_sF, xE_sF, xQ_sF, xN_sG, xU_sG, xS_sG, xF_sG, xE_sG, xQ_sG, xN_sE, xU_sE, xS_sE, xF_sE, xG_sE, xQ_sE, xN_sQ, xU_sQ, xS_sQ, xF_sQ, xG_sQ, xE_sQ, xN_cpE, xU_cpE, xS_cpE, xF_cpE, xG_cpE, xQ_cpE, xN_nw, xU_nw, hF_sF_ne, hF_sF_at, hG_sG_ne, hG_sG_at, hE_sE_ne, hE_sE_at, hQ_sQ_ne, hQ_sQ_at, hE_cpE_ne, hE_cpE_at, St_sF, St_sE, St_sQ, eD_sF, eD_sG, eD_sQ, eD_sE, eD_cpE, qD_sF, qD_sG, qD_sE, qD_sQ, qD_cpE, true_and, and_true, true_or, or_true, or_false, false_or, ↓reduceIte, if_true, if_false, ne_eq, not_true_eq_false, not_false_eq_true, and_false, false_and, Nat.reduceEqDiff, Nat.reduceLeDiff, Nat.reduceLT, Nat.reduceAdd, Nat.reduceMul, Nat.reduceSub, Nat.reduceDiv, Nat.reduceMod, upR_at]
      · simp only [xN_sF, xU_sF, xS_sF, xG_sF, xE_sF, xQ_sF, xN_sG, xU_sG, xS_sG, xF_sG, xE_sG, xQ_sG, xN_sE, xU_sE, xS_sE, xF_sE, xG_sE, xQ_sE, xN_sQ, xU_sQ, xS_sQ, xF_sQ, xG_sQ, xE_sQ, xN_cpE, xU_cpE, xS_cpE, xF_cpE, xG_cpE, xQ_cpE, xN_nw, xU_nw, hF_sF_ne, hF_sF_at, hG_sG_ne, hG_sG_at, hE_sE_ne, hE_sE_at, hQ_sQ_ne, hQ_sQ_at, hE_cpE_ne, hE_cpE_at, St_sF, St_sE, St_sQ, eD_sF, eD_sG, eD_sQ, eD_sE, eD_cpE, qD_sF, qD_sG, qD_sE, qD_sQ, qD_cpE, true_and, and_true, true_or, or_true, or_false, false_or, ↓reduceIte, if_true, if_false, ne_eq, not_true_eq_false, not_false_eq_true, and_false, false_and, Nat.reduceEqDiff, Nat.reduceLeDiff, Nat.reduceLT, Nat.reduceAdd, Nat.reduceMul, Nat.reduceSub, Nat.reduceDiv, Nat.reduceMod, hy, xF_roE]
      · rw [upR_ne hy, wE 122 (by decide), e122]
      · rw [upR_at]; exact rb
      · rw [wE 121 (by decide), e121]; exact hsh
    · by_cases e2 : 8 * i2 + j2 = 8 * i + j
      · obtain rfl : i2 = i := by omega
        rw [wE 116 (by decide), e116] at q3
        exact absurd q3 hbeg
      · rw [upR_ne e2]
        have := uR.2.2 i2 j2 q1 q2 q3
        rwa [wE 122 (by decide), e122] at this
    · rw [wE 118 (by decide)]
      refine iM_add (a := hN m) (q := hQ m 90) (iM_grow vM' (by omega) (fun y hy => ?_)) h250 ?_ (fun y hy => ?_) hna ⟨m151, by omega, n3⟩ (fun y hy => ⟨upR_ne hy, upR_ne hy, upR_ne hy, upR_ne hy, upR_ne hy, upR_ne hy, upR_ne hy⟩) ?_ (upR_at _ _ _) ?_
      · have ny : y ≠ hN m := by omega
        simp only [xN_sF, xU_sF, xS_sF, xG_sF, xE_sF, xQ_sF, xN_sG, xU_sG, xS_sG, xF_sG, xE_sG, xQ_sG, xN_sE, xU_sE, xS_sE, xF_sE, xG_sE, xQ_sE, xN_sQ, xU_sQ, xS_sQ, xF_sQ, xG_sQ, xE_sQ, xN_cpE, xU_cpE, xS_cpE, xF_cpE, xG_cpE, xQ_cpE, xN_nw, xU_nw, hF_sF_ne, hF_sF_at, hG_sG_ne, hG_sG_at, hE_sE_ne, hE_sE_at, hQ_sQ_ne, hQ_sQ_at, hE_cpE_ne, hE_cpE_at, St_sF, St_sE, St_sQ, eD_sF, eD_sG, eD_sQ, eD_sE, eD_cpE, qD_sF, qD_sG, qD_sE, qD_sQ, qD_cpE, true_and, and_true, true_or, or_true, or_false, false_or, ↓reduceIte, if_true, if_false, ne_eq, not_true_eq_false, not_false_eq_true, and_false, false_and, Nat.reduceEqDiff, Nat.reduceLeDiff, Nat.reduceLT, Nat.reduceAdd, Nat.reduceMul, Nat.reduceSub, Nat.reduceDiv, Nat.reduceMod, ny, xF_roE]
        exact ⟨(kk y hy).1, (kk y hy).2.1 _, (kk y hy).2.1 _, (kk y hy).2.1 _, (kk y hy).2.1 _, (kk y hy).2.1 _, (kk y hy).2.1 _, (kk y hy).2.1 _⟩
      · simp only [xN_sF, xU_sF, xS_sF, xG_sF, xE_sF, xQ_sF, xN_sG, xU_sG, xS_sG, xF_sG, xE_sG, xQ_sG, xN_sE, xU_sE, xS_sE, xF_sE, xG_sE, xQ_sE, xN_sQ, xU_sQ, xS_sQ, xF_sQ, xG_sQ, xE_sQ, xN_cpE, xU_cpE, xS_cpE, xF_cpE, xG_cpE, xQ_cpE, xN_nw, xU_nw, hF_sF_ne, hF_sF_at, hG_sG_ne, hG_sG_at, hE_sE_ne, hE_sE_at, hQ_sQ_ne, hQ_sQ_at, hE_cpE_ne, hE_cpE_at, St_sF, St_sE, St_sQ, eD_sF, eD_sG, eD_sQ, eD_sE, eD_cpE, qD_sF, qD_sG, qD_sE, qD_sQ, qD_cpE, true_and, and_true, true_or, or_true, or_false, false_or, ↓reduceIte, if_true, if_false, ne_eq, not_true_eq_false, not_false_eq_true, and_false, false_and, Nat.reduceEqDiff, Nat.reduceLeDiff, Nat.reduceLT, Nat.reduceAdd, Nat.reduceMul, Nat.reduceSub, Nat.reduceDiv, Nat.reduceMod]
      · simp only [xN_sF, xU_sF, xS_sF, xG_sF, xE_sF, xQ_sF, xN_sG, xU_sG, xS_sG, xF_sG, xE_sG, xQ_sG, xN_sE, xU_sE, xS_sE, xF_sE, xG_sE, xQ_sE, xN_sQ, xU_sQ, xS_sQ, xF_sQ, xG_sQ, xE_sQ, xN_cpE, xU_cpE, xS_cpE, xF_cpE, xG_cpE, xQ_cpE, xN_nw, xU_nw, hF_sF_ne, hF_sF_at, hG_sG_ne, hG_sG_at, hE_sE_ne, hE_sE_at, hQ_sQ_ne, hQ_sQ_at, hE_cpE_ne, hE_cpE_at, St_sF, St_sE, St_sQ, eD_sF, eD_sG, eD_sQ, eD_sE, eD_cpE, qD_sF, qD_sG, qD_sE, qD_sQ, qD_cpE, true_and, and_true, true_or, or_true, or_false, false_or, ↓reduceIte, if_true, if_false, ne_eq, not_true_eq_false, not_false_eq_true, and_false, false_and, Nat.reduceEqDiff, Nat.reduceLeDiff, Nat.reduceLT, Nat.reduceAdd, Nat.reduceMul, Nat.reduceSub, Nat.reduceDiv, Nat.reduceMod, hy, xQ_roE, w90]
      · simp only [xN_sF, xU_sF, xS_sF, xG_sF, xE_sF, xQ_sF, xN_sG, xU_sG, xS_sG, xF_sG, xE_sG, xQ_sG, xN_sE, xU_sE, xS_sE, xF_sE, xG_sE, xQ_sE, xN_sQ, xU_sQ, xS_sQ, xF_sQ, xG_sQ, xE_sQ, xN_cpE, xU_cpE, xS_cpE, xF_cpE, xG_cpE, xQ_cpE, xN_nw, xU_nw, hF_sF_ne, hF_sF_at, hG_sG_ne, hG_sG_at, hE_sE_ne, hE_sE_at, hQ_sQ_ne, hQ_sQ_at, hE_cpE_ne, hE_cpE_at, St_sF, St_sE, St_sQ, eD_sF, eD_sG, eD_sQ, eD_sE, eD_cpE, qD_sF, qD_sG, qD_sE, qD_sQ, qD_cpE, true_and, and_true, true_or, or_true, or_false, false_or, ↓reduceIte, if_true, if_false, ne_eq, not_true_eq_false, not_false_eq_true, and_false, false_and, Nat.reduceEqDiff, Nat.reduceLeDiff, Nat.reduceLT, Nat.reduceAdd, Nat.reduceMul, Nat.reduceSub, Nat.reduceDiv, Nat.reduceMod, upR_at]
        exact ⟨n4, n5.trans cI, n6, n10⟩
      · simp only [upR_at]
        exact ⟨⟨hd, hdH, rfl⟩, ⟨i, j, ci, zj, rfl, rfl, by rw [e118, hb, n_lt (by omega) (by omega)]; exact hj⟩, rx, rP⟩
    · refine iP_add h250 vP' (fun y hy => ⟨upR_ne hy, upR_ne hy⟩) (upR_at _ _ _) (Or.inr ⟨p0, by omega, by rw [upR_at]; exact e, ?_, ?_, fun o _ ho => ?_⟩)
      · rw [e91]; exact of_decide_eq_true p2
      · simp only [xN_sF, xU_sF, xS_sF, xG_sF, xE_sF, xQ_sF, xN_sG, xU_sG, xS_sG, xF_sG, xE_sG, xQ_sG, xN_sE, xU_sE, xS_sE, xF_sE, xG_sE, xQ_sE, xN_sQ, xU_sQ, xS_sQ, xF_sQ, xG_sQ, xE_sQ, xN_cpE, xU_cpE, xS_cpE, xF_cpE, xG_cpE, xQ_cpE, xN_nw, xU_nw, hF_sF_ne, hF_sF_at, hG_sG_ne, hG_sG_at, hE_sE_ne, hE_sE_at, hQ_sQ_ne, hQ_sQ_at, hE_cpE_ne, hE_cpE_at, St_sF, St_sE, St_sQ, eD_sF, eD_sG, eD_sQ, eD_sE, eD_cpE, qD_sF, qD_sG, qD_sE, qD_sQ, qD_cpE, true_and, and_true, true_or, or_true, or_false, false_or, ↓reduceIte, if_true, if_false, ne_eq, not_true_eq_false, not_false_eq_true, and_false, false_and, Nat.reduceEqDiff, Nat.reduceLeDiff, Nat.reduceLT, Nat.reduceAdd, Nat.reduceMul, Nat.reduceSub, Nat.reduceDiv, Nat.reduceMod]
      · simp only [xN_sF, xU_sF, xS_sF, xG_sF, xE_sF, xQ_sF, xN_sG, xU_sG, xS_sG, xF_sG, xE_sG, xQ_sG, xN_sE, xU_sE, xS_sE, xF_sE, xG_sE, xQ_sE, xN_sQ, xU_sQ, xS_sQ, xF_sQ, xG_sQ, xE_sQ, xN_cpE, xU_cpE, xS_cpE, xF_cpE, xG_cpE, xQ_cpE, xN_nw, xU_nw, hF_sF_ne, hF_sF_at, hG_sG_ne, hG_sG_at, hE_sE_ne, hE_sE_at, hQ_sQ_ne, hQ_sQ_at, hE_cpE_ne, hE_cpE_at, St_sF, St_sE, St_sQ, eD_sF, eD_sG, eD_sQ, eD_sE, eD_cpE, qD_sF, qD_sG, qD_sE, qD_sQ, qD_cpE, true_and, and_true, true_or, or_true, or_false, false_or, ↓reduceIte, if_true, if_false, ne_eq, not_true_eq_false, not_false_eq_true, and_false, false_and, Nat.reduceEqDiff, Nat.reduceLeDiff, Nat.reduceLT, Nat.reduceAdd, Nat.reduceMul, Nat.reduceSub, Nat.reduceDiv, Nat.reduceMod, ho, hE_roE_ne, wE, Nat.reduceLT]
