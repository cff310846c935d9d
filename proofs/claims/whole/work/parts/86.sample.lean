/-! A NEW SAMPLE -/
def nSa (h : Hp) (n c b : Int32) : Hp := sF (sF (sF (sF (sF (sF (sF (nw h 8 0 7) 53 (hN h) 0) 54 (hN h) (-1)) 55 (hN h) (-1)) 56 (hN h) 0) 50 (hN h) n) 51 (hN h) c) 52 (hN h) b
section H
variable {d : Nat} {h : Hp} {Q : Option AV → Hp → Prop}
theorem c_newSample {n c b : Int32} : Wc (d + 1) 55 [.inr (.inr (some (hN h))), .inl n, .inl c, .inl b] (nw h 8 0 7) Q ↔ Q none (nSa h n c b) := by
  simp only [e55, b55_0, Bk55_0, mx55, r_nop, r_goto, r_iconst, r_bipush, r_sipush, r_lconst, r_null, r_ldc, r_ldcw, r_ldcs, r_ldc2, r_aload4, r_aload5, r_aload7, r_aload_n0, r_aload_n1, r_aload_n2, r_aload_n3, r_astore4, r_astore5, r_astore7, r_astore_n1, r_astore_n2, r_astore_n3, r_iload4, r_iload5, r_iload6, r_iload7, r_iload8, r_iload9, r_iload10, r_iload_n0, r_iload_n1, r_iload_n2, r_iload_n3, r_istore4, r_istore5, r_istore6, r_istore7, r_istore8, r_istore9, r_istore10, r_istore_n1, r_istore_n2, r_istore_n3, r_lload4, r_lload8, r_lload10, r_lload_n0, r_lload_n1, r_lload_n2, r_lstore4, r_lstore8, r_lstore10, r_lstore_n1, r_iinc1, r_iinc2, r_iinc3, r_iinc4, r_iinc5, r_iinc6, r_iinc7, r_iinc8, r_iadd, r_isub, r_imul, r_iand, r_ior, r_ixor, r_ishl, r_ishr, r_idiv, r_irem, r_ineg, r_ladd, r_lsub, r_lmul, r_land, r_lor, r_lxor, r_lshl, r_lshr, r_lcmp, r_i2l, r_l2i, r_i2b, r_i2c, r_dupi, r_dupr, r_popi, r_popr, r_dup2, r_if_eq, r_icmp_eq, r_if_ne, r_icmp_ne, r_if_lt, r_icmp_lt, r_if_ge, r_icmp_ge, r_if_gt, r_icmp_gt, r_if_le, r_icmp_le, r_ifnull, r_ifnonnull, r_table, r_lookup, r_getf0, r_gets0, r_getf1, r_gets1, r_getf3, r_gets3, r_getf2, r_gets2, r_putfi, r_putfr, r_iaload, r_baload, r_aaload, r_iastore, r_bastore, r_aastore, r_alen, r_new, r_newa, r_anew, r_copy, r_oinit, r_ci1, r_ci2, r_ci4, r_ci5, r_cs1, r_cs2, r_cs3, r_cs4, r_cv1, r_cv2, r_cv3, r_cv4, r_cv5, r_cv6, r_iret, r_lret, r_aret, r_ret, kl_n, kl_i, kl_r, psh_n, psh_s, lt5_0, lt5_1, lt5_2, lt5_3, lt5_4, ent_0, ent_i, ent_r, ent_j, ent_z, fit_0, fit_1, swix, List.getD_cons_succ, List.getD_cons_zero, Int.reduceEq, Int.reduceLT, Int.reduceSub, Int.reduceToNat, Int.reduceNeg, Int.reduceLE, ti_m1000000, ti_m1000, ti_m100, ti_m50, ti_m3, ti_m2, ti_m1, ti_0, ti_1, ti_2, ti_3, ti_4, ti_5, ti_6, ti_7, ti_8, ti_9, ti_10, ti_11, ti_12, ti_13, ti_14, ti_15, ti_16, ti_17, ti_18, ti_19, ti_20, ti_21, ti_23, ti_24, ti_26, ti_27, ti_28, ti_29, ti_30, ti_32, ti_36, ti_38, ti_39, ti_40, ti_41, ti_42, ti_45, ti_47, ti_48, ti_49, ti_50, ti_51, ti_57, ti_59, ti_60, ti_61, ti_63, ti_64, ti_72, ti_80, ti_90, ti_91, ti_97, ti_99, ti_100, ti_122, ti_160, ti_161, ti_180, ti_200, ti_201, ti_202, ti_240, ti_250, ti_255, ti_288, ti_400, ti_900, ti_1000, ti_1440, ti_1616, ti_2048, ti_2730, ti_12000, ti_100000, tc_0, tc_1, tc_2, tc_3, tc_4, tc_5, tc_6, tc_7, tc_8, tc_9, tc_10, tc_11, tc_12, tc_13, tc_14, tc_15, tc_16, tc_17, tc_18, tc_19, tc_20, tc_21, tc_23, tc_24, tc_26, tc_27, tc_28, tc_29, tc_30, tc_32, tc_36, tc_38, tc_39, tc_40, tc_41, tc_42, tc_45, tc_47, tc_48, tc_49, tc_50, tc_51, tc_57, tc_59, tc_60, tc_61, tc_63, tc_64, tc_72, tc_80, tc_90, tc_91, tc_97, tc_99, tc_100, tc_122, tc_160, tc_161, tc_180, tc_200, tc_201, tc_202, tc_240, tc_250, tc_255, tc_288, tc_400, tc_900, tc_1000, tc_1440, tc_1616, tc_2048, tc_2730, tc_12000, tc_100000, xN_sF, xU_sF, xS_sF, xG_sF, xE_sF, xQ_sF, xN_sG, xU_sG, xS_sG, xF_sG, xE_sG, xQ_sG, xN_sE, xU_sE, xS_sE, xF_sE, xG_sE, xQ_sE, xN_sQ, xU_sQ, xS_sQ, xF_sQ, xG_sQ, xE_sQ, xN_cpE, xU_cpE, xS_cpE, xF_cpE, xG_cpE, xQ_cpE, xN_nw, xU_nw, hF_sF_ne, hF_sF_at, hG_sG_ne, hG_sG_at, hE_sE_ne, hE_sE_at, hQ_sQ_ne, hQ_sQ_at, hE_cpE_ne, hE_cpE_at, kc_m1000000, kc_m1, kc_0, kc_1, kc_2, kc_3, kc_4, kc_5, kc_100000, kb_m100, kb_m50, kb_m3, kb_m2, kb_6, kb_7, kb_8, kb_9, kb_10, kb_11, kb_12, kb_13, kb_14, kb_15, kb_16, kb_17, kb_18, kb_19, kb_20, kb_21, kb_23, kb_24, kb_30, kb_32, kb_36, kb_39, kb_40, kb_41, kb_45, kb_48, kb_50, kb_51, kb_57, kb_59, kb_60, kb_61, kb_63, kb_64, kb_72, kb_80, kb_90, kb_91, kb_97, kb_99, kb_100, kb_122, ks_m1000, ks_160, ks_161, ks_180, ks_200, ks_201, ks_202, ks_240, ks_250, ks_255, ks_288, ks_400, ks_900, ks_1000, ks_1440, ks_1616, ks_2048, ks_2730, ks_12000, kl2_32, kl2_97, kl2_255, kl2_4294967295, klc_0, klc_1, ki_100, ki_200, kb_101, kb_202, kq_302, kq_303, kq_304, kq_308, kq_309, kq_310, ka_100, ka_101, ka_302, ka_303, ka_304, ka_308, ka_309, ka_310, true_and, and_true, true_or, or_true, one_ne, ↓reduceIte, if_true, if_false, ne_eq, not_true_eq_false, not_false_eq_true, or_false, false_or, and_false, false_and, reduceCtorEq, Nat.reduceEqDiff, Nat.reduceLeDiff, Nat.reduceLT, Nat.reduceAdd, Nat.reduceMul, Nat.reduceSub, Nat.reduceDiv, Nat.reduceMod, fit_0, fit_1, hS_nw, nSa, Nat.le_add_left]
end H
theorem ag_nSa (h : Hp) (n c b : Int32) : ag h (nSa h n c b) := by
  unfold nSa
  exact ((((((ag_nw h 8 0 7).sF (Nat.le_refl _)).sF (Nat.le_refl _)).sF (Nat.le_refl _)).sF (Nat.le_refl _)).sF (Nat.le_refl _)).sF (Nat.le_refl _) |>.sF (Nat.le_refl _)
theorem nSa_at (h : Hp) (n c b : Int32) : hN (nSa h n c b) = hN h + 1 ∧ hU (nSa h n c b) = hU h + 7 ∧ hS (nSa h n c b) (hN h) = (8, 0) ∧ hF (nSa h n c b) 50 (hN h) = n ∧ hF (nSa h n c b) 51 (hN h) = c ∧ hF (nSa h n c b) 52 (hN h) = b ∧ hF (nSa h n c b) 53 (hN h) = 0 ∧ hF (nSa h n c b) 54 (hN h) = -1 ∧ hF (nSa h n c b) 55 (hN h) = -1 ∧ hF (nSa h n c b) 56 (hN h) = 0 := by
  unfold nSa
  simp only [xN_sF, xU_sF, xS_sF, xG_sF, xE_sF, xQ_sF, xN_sG, xU_sG, xS_sG, xF_sG, xE_sG, xQ_sG, xN_sE, xU_sE, xS_sE, xF_sE, xG_sE, xQ_sE, xN_sQ, xU_sQ, xS_sQ, xF_sQ, xG_sQ, xE_sQ, xN_cpE, xU_cpE, xS_cpE, xF_cpE, xG_cpE, xQ_cpE, xN_nw, xU_nw, hF_sF_ne, hF_sF_at, hG_sG_ne, hG_sG_at, hE_sE_ne, hE_sE_at, hQ_sQ_ne, hQ_sQ_at, hE_cpE_ne, hE_cpE_at, St_sF, St_sE, St_sQ, eD_sF, eD_sG, eD_sQ, eD_sE, eD_cpE, qD_sF, qD_sG, qD_sE, qD_sQ, qD_cpE, true_and, and_true, true_or, or_true, or_false, false_or, ↓reduceIte, if_true, if_false, ne_eq, not_true_eq_false, not_false_eq_true, and_false, false_and, Nat.reduceEqDiff, Nat.reduceLeDiff, Nat.reduceLT, Nat.reduceAdd, Nat.reduceMul, Nat.reduceSub, Nat.reduceDiv, Nat.reduceMod, hS_nw, hF_nw, xN_nw, xU_nw]
/-- the samples with one more -/
theorem iM_add {nM nH nC : Nat} {cc tc : Int32} {q q' : Nat → Option Nat} {S : Nat → Nat × Nat} {N a : Nat} {fh fc fb fp fl fpl fst eh ec eb ep el epl est eh' ec' eb' ep' el' epl' est' ebot : Nat → Int32} (H : iM nM nH nC cc tc q S N fh fc fb fp fl fpl fst eh ec eb ep el epl est ebot) (h250 : nM < 250) (hq : q' nM = some a) (hq2 : ∀ j, j ≠ nM → q' j = q j) (hna : ∀ i, q i ≠ some a) (ha : 151 ≤ a ∧ a < N ∧ S a = (8, 0))
    (he : ∀ j, j ≠ nM → eh' j = eh j ∧ ec' j = ec j ∧ eb' j = eb j ∧ ep' j = ep j ∧ el' j = el j ∧ epl' j = epl j ∧ est' j = est j)
    (hf : fh a = eh' nM ∧ fc a = ec' nM ∧ fb a = eb' nM ∧ fp a = ep' nM ∧ fl a = el' nM ∧ fpl a = epl' nM ∧ fst a = est' nM) (h0 : est' nM = 0)
    (hr : (∃ n, n < nH ∧ eh' nM = Int32.ofNat n) ∧ (∃ c b : Nat, c < nC ∧ b < 8 ∧ ec' nM = Int32.ofNat c ∧ eb' nM = Int32.ofNat b ∧ eb' nM < ebot c) ∧ Rng (ep' nM) 1 10 ∧ Rng (epl' nM) (-1) 59) : iM (nM + 1) nH nC (Int32.ofNat (nM + 1)) (Int32.ofNat (nM + 1)) q' S N fh fc fb fp fl fpl fst eh' ec' eb' ep' el' epl' est' ebot := by
  obtain ⟨c1, c2, c3, c4, c5, c6, c7⟩ := H
  refine ⟨rfl, rfl, by omega, fun i b hb => ?_, fun i hi => ?_, fun i j b h1 h2 => ?_, fun i hi => ?_⟩
  · by_cases e : i = nM
    · subst e
      rw [hq] at hb; cases hb
      obtain ⟨f1, f2, f3, f4, f5, f6, f7⟩ := hf
      exact ⟨by omega, ha.1, ha.2.1, ha.2.2, f1, f2, f3, f4, f5, f7, by rw [if_pos h0]; exact f6⟩
    · rw [hq2 i e] at hb
      obtain ⟨d1, d⟩ := c4 i b hb
      obtain ⟨m1, m2, m3, m4, m5, m6, m7⟩ := he i e
      rw [m1, m2, m3, m4, m5, m6, m7]
      exact ⟨by omega, d⟩
  · by_cases e : i = nM
    · exact ⟨a, by rw [e]; exact hq⟩
    · rw [hq2 i e]; exact c5 i (by omega)
  · by_cases e : i = nM
    · by_cases e2 : j = nM
      · omega
      · rw [e, hq] at h1; cases h1
        rw [hq2 j e2] at h2; exact absurd h2 (hna j)
    · by_cases e2 : j = nM
      · rw [e2, hq] at h2; cases h2
        rw [hq2 i e] at h1; exact absurd h1 (hna i)
      · rw [hq2 i e] at h1; rw [hq2 j e2] at h2; exact c6 i j b h1 h2
  · by_cases e : i = nM
    · subst e
      exact ⟨hr.1, hr.2.1, hr.2.2.1, hr.2.2.2, by rw [h0]; decide⟩
    · obtain ⟨m1, m2, m3, m4, m5, m6, m7⟩ := he i e
      rw [m1, m2, m3, m4, m6, m7]
      exact c7 i (by omega)
/-- a place is free in the class where no sample stands there -/
theorem iP_free {nM : Nat} {pl epl est : Nat → Int32} (H : iP nM pl epl est) (h250 : nM ≤ 250) {p : Nat} (hp : p < 60) : (pl p = -1) ↔ (smA est epl nM (Int32.ofNat p) = -1) := by
  have fr := fhN_r (f := fun i => decide (est i = 0 ∧ epl i = Int32.ofNat p)) nM 0 (by omega)
  have ng : ∀ j : Nat, j < 250 → ¬ Int32.ofNat j = -1 := by
    intro j hj w
    have := congrArg Int32.toInt w
    rw [tn_i (by omega)] at this
    have e : (-1 : Int32).toInt = -1 := rfl
    omega
  unfold smA
  rcases H p hp with ⟨h1, h2⟩ | ⟨i, h1, h2, h3, h4, h5⟩
  · constructor
    · intro _
      rcases fr with ⟨q, -⟩ | ⟨j, q1, q2, q3, q4, q5⟩
      · exact q
      · have := of_decide_eq_true q4
        exact absurd this.2 (h2 j (by omega) this.1)
    · intro _; exact h1
  · constructor
    · intro w
      rw [h2] at w
      exact absurd w (ng i (by omega))
    · intro w
      rcases fr with ⟨q, r⟩ | ⟨j, q1, q2, q3, q4, q5⟩
      · have := r i (by omega) (by omega)
        rw [decide_eq_true ⟨h3, h4⟩] at this
        exact absurd this (by decide)
      · rw [q3] at w
        exact absurd w (ng j (by omega))
