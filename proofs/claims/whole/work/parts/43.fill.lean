/-! ROWS that are filled or copied -/
def flE (h : Hp) (a lo n : Nat) (v : Int32) : Hp := (hN h, hU h, hS h, hF h, hG h, (fun x j => if x = a ∧ lo ≤ j ∧ j < n then v else hE h x j), hQ h)
theorem xN_flE (h : Hp) (a lo n : Nat) (v : Int32) : hN (flE h a lo n v) = hN h := id rfl
theorem xU_flE (h : Hp) (a lo n : Nat) (v : Int32) : hU (flE h a lo n v) = hU h := id rfl
theorem xS_flE (h : Hp) (a lo n : Nat) (v : Int32) : hS (flE h a lo n v) = hS h := id rfl
theorem xF_flE (h : Hp) (a lo n : Nat) (v : Int32) : hF (flE h a lo n v) = hF h := id rfl
theorem xG_flE (h : Hp) (a lo n : Nat) (v : Int32) : hG (flE h a lo n v) = hG h := id rfl
theorem xQ_flE (h : Hp) (a lo n : Nat) (v : Int32) : hQ (flE h a lo n v) = hQ h := id rfl
theorem hE_flE (h : Hp) (a lo n : Nat) (v : Int32) (x j : Nat) : hE (flE h a lo n v) x j = if x = a ∧ lo ≤ j ∧ j < n then v else hE h x j := id rfl
theorem hE_flE_ne {h : Hp} {a lo n b : Nat} {v : Int32} (hb : b ≠ a) : hE (flE h a lo n v) b = hE h b := by
  funext j; rw [hE_flE, if_neg (fun q => hb q.1)]
theorem hE_flE_at {h : Hp} {a lo n j : Nat} {v : Int32} : hE (flE h a lo n v) a j = if lo ≤ j ∧ j < n then v else hE h a j := by
  rw [hE_flE]; simp
theorem hp_ext {h g : Hp} (h1 : hN h = hN g) (h2 : hU h = hU g) (h3 : hS h = hS g) (h4 : hF h = hF g) (h5 : hG h = hG g) (h6 : hE h = hE g) (h7 : hQ h = hQ g) : h = g := by
  obtain ⟨a, b, c, d, e, f, i⟩ := h
  obtain ⟨a', b', c', d', e', f', i'⟩ := g
  cases h1; cases h2; cases h3; cases h4; cases h5; cases h6; cases h7; rfl
theorem flE_0 (h : Hp) (a lo : Nat) (v : Int32) : flE h a lo lo v = h := by
  refine hp_ext rfl rfl rfl rfl rfl ?_ rfl
  funext x j; rw [hE_flE, if_neg (by omega)]
theorem flE_s {h : Hp} {a lo n : Nat} {v : Int32} (hl : lo ≤ n) : sE (flE h a lo n v) a n v = flE h a lo (n + 1) v := by
  refine hp_ext rfl rfl rfl rfl rfl ?_ rfl
  funext x j
  rw [hE_sE, hE_flE, hE_flE]
  by_cases q : x = a
  · by_cases q2 : j = n
    · rw [if_pos ⟨q, q2⟩, if_pos (by omega)]
    · rw [if_neg (by omega)]
      by_cases q3 : lo ≤ j ∧ j < n
      · rw [if_pos (by omega), if_pos (by omega)]
      · rw [if_neg (by omega), if_neg (by omega)]
  · rw [if_neg (by omega), if_neg (by omega), if_neg (by omega)]
theorem cpE_0 (h : Hp) (a sp b dp : Nat) : cpE h a sp b dp 0 = h := by
  refine hp_ext rfl rfl rfl rfl rfl ?_ rfl
  funext x j; rw [hE_cpE]; unfold va_cpy
  by_cases q : x = b
  · rw [if_pos q, if_neg (by omega), q]
  · rw [if_neg q]
theorem cpE_s {h : Hp} {a sp b dp n : Nat} : sE (cpE h a sp b dp n) b (dp + n) (hE h a (sp + n)) = cpE h a sp b dp (n + 1) := by
  refine hp_ext rfl rfl rfl rfl rfl ?_ rfl
  funext x j
  rw [hE_sE, hE_cpE, hE_cpE]; unfold va_cpy
  by_cases q : x = b
  · rw [if_pos q, if_pos q]
    by_cases q2 : j = dp + n
    · rw [if_pos ⟨q, q2⟩, if_pos (by omega), q2, show dp + n - dp = n by omega]
    · rw [if_neg (by omega)]
      by_cases q3 : dp ≤ j ∧ j < dp + n
      · rw [if_pos q3, if_pos (by omega)]
      · rw [if_neg q3, if_neg (by omega)]
  · rw [if_neg q, if_neg q, if_neg (by omega)]
theorem St_flE {h : Hp} {b lo n : Nat} {v : Int32} (ha : 64 ≤ b) : St (flE h b lo n v) ↔ St h := by
  have e : ∀ x, x < 64 → hE (flE h b lo n v) x = hE h x := fun x hx => hE_flE_ne (by omega)
  have e1 : ∀ j, 1 ≤ j → j ≤ 4 → hE (flE h b lo n v) j = hE h j := fun j _ _ => e j (by omega)
  have e2 : ∀ j, j < 9 → hE (flE h b lo n v) (20 + j) = hE h (20 + j) := fun j hj => e _ (by omega)
  unfold St
  simp only [xS_flE, xG_flE, xQ_flE, xN_flE, xF_flE]
  constructor
  · rintro ⟨a1, a2, a3, a4, a5, a6, a7, a8, a9, a10, a11, a12⟩
    exact ⟨a1, a2, a3, a4, a5, a6, a7, a8, a9, fun j q1 q2 => by have := a10 j q1 q2; rwa [e1 j q1 q2] at this, fun j hj => by have := a11 j hj; rwa [e2 j hj] at this, a12⟩
  · rintro ⟨a1, a2, a3, a4, a5, a6, a7, a8, a9, a10, a11, a12⟩
    exact ⟨a1, a2, a3, a4, a5, a6, a7, a8, a9, fun j q1 q2 => by rw [e1 j q1 q2]; exact a10 j q1 q2, fun j hj => by rw [e2 j hj]; exact a11 j hj, a12⟩
theorem eD_flE {h : Hp} {b lo n : Nat} {v : Int32} (hb : b < 86 ∨ 89 ≤ b ∧ b < 151) : eD (flE h b lo n v) = eD h := by
  funext x j
  unfold eD
  by_cases ha : x < 86 ∨ 89 ≤ x ∧ x < 151
  · rw [if_pos ha, if_pos ha]
  · rw [if_neg ha, if_neg ha, hE_flE, if_neg (by omega)]
theorem qD_flE {h : Hp} {b lo n : Nat} {v : Int32} : qD (flE h b lo n v) = qD h := id rfl
theorem nb_of {i n : Nat} (hi : i < n) (hn : n < 2147483648) : inb (Int32.ofNat i) n := by
  unfold inb; rw [tn_i (by omega)]; omega
theorem le_rf (x : Int32) : (x ≤ x) = True := by rw [i_le]; simp
section H
variable {d : Nat} {h : Hp} {Q : Option AV → Hp → Prop}
theorem j_fill_l {b n : Nat} {v : Int32} (hs : hS h b = (100, n)) (hn : n < 1000000) : ∀ m i, i + m = n → (Wp d 233 (blk 233 1) [some (.inr (.inr (some b))), some (.inl v), some (.inl (Int32.ofNat i)), some (.inl (Int32.ofNat n))] [] (flE h b 0 i v) Q ↔ Q none (flE h b 0 n v)) := by
  intro m
  induction m with
  | zero =>
    intro i hi
    obtain rfl : i = n := by omega
    rw [b233_1]
    simp only [Bk233_1, Bk233_2, b233_2, r_nop, r_goto, r_iconst, r_bipush, r_sipush, r_lconst, r_null, r_ldc, r_ldcw, r_ldcs, r_ldc2, r_aload4, r_aload5, r_aload7, r_aload_n0, r_aload_n1, r_aload_n2, r_aload_n3, r_astore4, r_astore5, r_astore7, r_astore_n1, r_astore_n2, r_astore_n3, r_iload4, r_iload5, r_iload6, r_iload7, r_iload8, r_iload9, r_iload10, r_iload_n0, r_iload_n1, r_iload_n2, r_iload_n3, r_istore4, r_istore5, r_istore6, r_istore7, r_istore8, r_istore9, r_istore10, r_istore_n1, r_istore_n2, r_istore_n3, r_lload4, r_lload8, r_lload10, r_lload_n0, r_lload_n1, r_lload_n2, r_lstore4, r_lstore8, r_lstore10, r_lstore_n1, r_iinc1, r_iinc2, r_iinc3, r_iinc4, r_iinc5, r_iinc6, r_iinc7, r_iinc8, r_iadd, r_isub, r_imul, r_iand, r_ior, r_ixor, r_ishl, r_ishr, r_idiv, r_irem, r_ineg, r_ladd, r_lsub, r_lmul, r_land, r_lor, r_lxor, r_lshl, r_lshr, r_lcmp, r_i2l, r_l2i, r_i2b, r_i2c, r_dupi, r_dupr, r_popi, r_popr, r_dup2, r_if_eq, r_icmp_eq, r_if_ne, r_icmp_ne, r_if_lt, r_icmp_lt, r_if_ge, r_icmp_ge, r_if_gt, r_icmp_gt, r_if_le, r_icmp_le, r_ifnull, r_ifnonnull, r_table, r_lookup, r_getf0, r_gets0, r_getf1, r_gets1, r_getf3, r_gets3, r_getf2, r_gets2, r_putfi, r_putfr, r_iaload, r_baload, r_aaload, r_iastore, r_bastore, r_aastore, r_alen, r_new, r_newa, r_anew, r_copy, r_oinit, r_ci1, r_ci2, r_ci4, r_ci5, r_cs1, r_cs2, r_cs3, r_cs4, r_cv1, r_cv2, r_cv3, r_cv4, r_cv5, r_cv6, r_iret, r_lret, r_aret, r_ret, kl_n, kl_i, kl_r, psh_n, psh_s, lt5_0, lt5_1, lt5_2, lt5_3, lt5_4, ent_0, ent_i, ent_r, ent_j, ent_z, fit_0, fit_1, swix, List.getD_cons_succ, List.getD_cons_zero, Int.reduceEq, Int.reduceLT, Int.reduceSub, Int.reduceToNat, Int.reduceNeg, Int.reduceLE, ti_m1000000, ti_m1000, ti_m100, ti_m50, ti_m3, ti_m2, ti_m1, ti_0, ti_1, ti_2, ti_3, ti_4, ti_5, ti_6, ti_7, ti_8, ti_9, ti_10, ti_11, ti_12, ti_13, ti_14, ti_15, ti_16, ti_17, ti_18, ti_19, ti_20, ti_21, ti_23, ti_24, ti_26, ti_27, ti_28, ti_29, ti_30, ti_32, ti_36, ti_38, ti_39, ti_40, ti_41, ti_42, ti_45, ti_47, ti_48, ti_49, ti_50, ti_51, ti_57, ti_59, ti_60, ti_61, ti_63, ti_64, ti_72, ti_80, ti_90, ti_91, ti_97, ti_99, ti_100, ti_122, ti_160, ti_161, ti_180, ti_200, ti_201, ti_202, ti_240, ti_250, ti_255, ti_288, ti_400, ti_900, ti_1000, ti_1440, ti_1616, ti_2048, ti_2730, ti_12000, ti_100000, tc_0, tc_1, tc_2, tc_3, tc_4, tc_5, tc_6, tc_7, tc_8, tc_9, tc_10, tc_11, tc_12, tc_13, tc_14, tc_15, tc_16, tc_17, tc_18, tc_19, tc_20, tc_21, tc_23, tc_24, tc_26, tc_27, tc_28, tc_29, tc_30, tc_32, tc_36, tc_38, tc_39, tc_40, tc_41, tc_42, tc_45, tc_47, tc_48, tc_49, tc_50, tc_51, tc_57, tc_59, tc_60, tc_61, tc_63, tc_64, tc_72, tc_80, tc_90, tc_91, tc_97, tc_99, tc_100, tc_122, tc_160, tc_161, tc_180, tc_200, tc_201, tc_202, tc_240, tc_250, tc_255, tc_288, tc_400, tc_900, tc_1000, tc_1440, tc_1616, tc_2048, tc_2730, tc_12000, tc_100000, xN_sF, xU_sF, xS_sF, xG_sF, xE_sF, xQ_sF, xN_sG, xU_sG, xS_sG, xF_sG, xE_sG, xQ_sG, xN_sE, xU_sE, xS_sE, xF_sE, xG_sE, xQ_sE, xN_sQ, xU_sQ, xS_sQ, xF_sQ, xG_sQ, xE_sQ, xN_cpE, xU_cpE, xS_cpE, xF_cpE, xG_cpE, xQ_cpE, xN_nw, xU_nw, hF_sF_ne, hF_sF_at, hG_sG_ne, hG_sG_at, hE_sE_ne, hE_sE_at, hQ_sQ_ne, hQ_sQ_at, hE_cpE_ne, hE_cpE_at, kc_m1000000, kc_m1, kc_0, kc_1, kc_2, kc_3, kc_4, kc_5, kc_100000, kb_m100, kb_m50, kb_m3, kb_m2, kb_6, kb_7, kb_8, kb_9, kb_10, kb_11, kb_12, kb_13, kb_14, kb_15, kb_16, kb_17, kb_18, kb_19, kb_20, kb_21, kb_23, kb_24, kb_30, kb_32, kb_36, kb_39, kb_40, kb_41, kb_45, kb_48, kb_50, kb_51, kb_57, kb_59, kb_60, kb_61, kb_63, kb_64, kb_72, kb_80, kb_90, kb_91, kb_97, kb_99, kb_100, kb_122, ks_m1000, ks_160, ks_161, ks_180, ks_200, ks_201, ks_202, ks_240, ks_250, ks_255, ks_288, ks_400, ks_900, ks_1000, ks_1440, ks_1616, ks_2048, ks_2730, ks_12000, kl2_32, kl2_97, kl2_255, kl2_4294967295, klc_0, klc_1, ki_100, ki_200, kb_101, kb_202, kq_302, kq_303, kq_304, kq_308, kq_309, kq_310, ka_100, ka_101, ka_302, ka_303, ka_304, ka_308, ka_309, ka_310, true_and, and_true, true_or, or_true, one_ne, ↓reduceIte, if_true, if_false, ne_eq, not_true_eq_false, not_false_eq_true, or_false, false_or, and_false, false_and, reduceCtorEq, Nat.reduceEqDiff, Nat.reduceLeDiff, Nat.reduceLT, Nat.reduceAdd, Nat.reduceMul, Nat.reduceSub, Nat.reduceDiv, Nat.reduceMod, le_rf]
  | succ m ih =>
    intro i hi
    have e1 : ¬ Int32.ofNat n ≤ Int32.ofNat i := by rw [n_le (by omega) (by omega)]; omega
    have e2 := nb_of (i := i) (n := n) (by omega) (by omega)
    have e3 := tn_c (n := i) (by omega)
    rw [b233_1]
    simp only [Bk233_1, r_nop, r_goto, r_iconst, r_bipush, r_sipush, r_lconst, r_null, r_ldc, r_ldcw, r_ldcs, r_ldc2, r_aload4, r_aload5, r_aload7, r_aload_n0, r_aload_n1, r_aload_n2, r_aload_n3, r_astore4, r_astore5, r_astore7, r_astore_n1, r_astore_n2, r_astore_n3, r_iload4, r_iload5, r_iload6, r_iload7, r_iload8, r_iload9, r_iload10, r_iload_n0, r_iload_n1, r_iload_n2, r_iload_n3, r_istore4, r_istore5, r_istore6, r_istore7, r_istore8, r_istore9, r_istore10, r_istore_n1, r_istore_n2, r_istore_n3, r_lload4, r_lload8, r_lload10, r_lload_n0, r_lload_n1, r_lload_n2, r_lstore4, r_lstore8, r_lstore10, r_lstore_n1, r_iinc1, r_iinc2, r_iinc3, r_iinc4, r_iinc5, r_iinc6, r_iinc7, r_iinc8, r_iadd, r_isub, r_imul, r_iand, r_ior, r_ixor, r_ishl, r_ishr, r_idiv, r_irem, r_ineg, r_ladd, r_lsub, r_lmul, r_land, r_lor, r_lxor, r_lshl, r_lshr, r_lcmp, r_i2l, r_l2i, r_i2b, r_i2c, r_dupi, r_dupr, r_popi, r_popr, r_dup2, r_if_eq, r_icmp_eq, r_if_ne, r_icmp_ne, r_if_lt, r_icmp_lt, r_if_ge, r_icmp_ge, r_if_gt, r_icmp_gt, r_if_le, r_icmp_le, r_ifnull, r_ifnonnull, r_table, r_lookup, r_getf0, r_gets0, r_getf1, r_gets1, r_getf3, r_gets3, r_getf2, r_gets2, r_putfi, r_putfr, r_iaload, r_baload, r_aaload, r_iastore, r_bastore, r_aastore, r_alen, r_new, r_newa, r_anew, r_copy, r_oinit, r_ci1, r_ci2, r_ci4, r_ci5, r_cs1, r_cs2, r_cs3, r_cs4, r_cv1, r_cv2, r_cv3, r_cv4, r_cv5, r_cv6, r_iret, r_lret, r_aret, r_ret, kl_n, kl_i, kl_r, psh_n, psh_s, lt5_0, lt5_1, lt5_2, lt5_3, lt5_4, ent_0, ent_i, ent_r, ent_j, ent_z, fit_0, fit_1, swix, List.getD_cons_succ, List.getD_cons_zero, Int.reduceEq, Int.reduceLT, Int.reduceSub, Int.reduceToNat, Int.reduceNeg, Int.reduceLE, ti_m1000000, ti_m1000, ti_m100, ti_m50, ti_m3, ti_m2, ti_m1, ti_0, ti_1, ti_2, ti_3, ti_4, ti_5, ti_6, ti_7, ti_8, ti_9, ti_10, ti_11, ti_12, ti_13, ti_14, ti_15, ti_16, ti_17, ti_18, ti_19, ti_20, ti_21, ti_23, ti_24, ti_26, ti_27, ti_28, ti_29, ti_30, ti_32, ti_36, ti_38, ti_39, ti_40, ti_41, ti_42, ti_45, ti_47, ti_48, ti_49, ti_50, ti_51, ti_57, ti_59, ti_60, ti_61, ti_63, ti_64, ti_72, ti_80, ti_90, ti_91, ti_97, ti_99, ti_100, ti_122, ti_160, ti_161, ti_180, ti_200, ti_201, ti_202, ti_240, ti_250, ti_255, ti_288, ti_400, ti_900, ti_1000, ti_1440, ti_1616, ti_2048, ti_2730, ti_12000, ti_100000, tc_0, tc_1, tc_2, tc_3, tc_4, tc_5, tc_6, tc_7, tc_8, tc_9, tc_10, tc_11, tc_12, tc_13, tc_14, tc_15, tc_16, tc_17, tc_18, tc_19, tc_20, tc_21, tc_23, tc_24, tc_26, tc_27, tc_28, tc_29, tc_30, tc_32, tc_36, tc_38, tc_39, tc_40, tc_41, tc_42, tc_45, tc_47, tc_48, tc_49, tc_50, tc_51, tc_57, tc_59, tc_60, tc_61, tc_63, tc_64, tc_72, tc_80, tc_90, tc_91, tc_97, tc_99, tc_100, tc_122, tc_160, tc_161, tc_180, tc_200, tc_201, tc_202, tc_240, tc_250, tc_255, tc_288, tc_400, tc_900, tc_1000, tc_1440, tc_1616, tc_2048, tc_2730, tc_12000, tc_100000, xN_sF, xU_sF, xS_sF, xG_sF, xE_sF, xQ_sF, xN_sG, xU_sG, xS_sG, xF_sG, xE_sG, xQ_sG, xN_sE, xU_sE, xS_sE, xF_sE, xG_sE, xQ_sE, xN_sQ, xU_sQ, xS_sQ, xF_sQ, xG_sQ, xE_sQ, xN_cpE, xU_cpE, xS_cpE, xF_cpE, xG_cpE, xQ_cpE, xN_nw, xU_nw, hF_sF_ne, hF_sF_at, hG_sG_ne, hG_sG_at, hE_sE_ne, hE_sE_at, hQ_sQ_ne, hQ_sQ_at, hE_cpE_ne, hE_cpE_at, kc_m1000000, kc_m1, kc_0, kc_1, kc_2, kc_3, kc_4, kc_5, kc_100000, kb_m100, kb_m50, kb_m3, kb_m2, kb_6, kb_7, kb_8, kb_9, kb_10, kb_11, kb_12, kb_13, kb_14, kb_15, kb_16, kb_17, kb_18, kb_19, kb_20, kb_21, kb_23, kb_24, kb_30, kb_32, kb_36, kb_39, kb_40, kb_41, kb_45, kb_48, kb_50, kb_51, kb_57, kb_59, kb_60, kb_61, kb_63, kb_64, kb_72, kb_80, kb_90, kb_91, kb_97, kb_99, kb_100, kb_122, ks_m1000, ks_160, ks_161, ks_180, ks_200, ks_201, ks_202, ks_240, ks_250, ks_255, ks_288, ks_400, ks_900, ks_1000, ks_1440, ks_1616, ks_2048, ks_2730, ks_12000, kl2_32, kl2_97, kl2_255, kl2_4294967295, klc_0, klc_1, ki_100, ki_200, kb_101, kb_202, kq_302, kq_303, kq_304, kq_308, kq_309, kq_310, ka_100, ka_101, ka_302, ka_303, ka_304, ka_308, ka_309, ka_310, true_and, and_true, true_or, or_true, one_ne, ↓reduceIte, if_true, if_false, ne_eq, not_true_eq_false, not_false_eq_true, or_false, false_or, and_false, false_and, reduceCtorEq, Nat.reduceEqDiff, Nat.reduceLeDiff, Nat.reduceLT, Nat.reduceAdd, Nat.reduceMul, Nat.reduceSub, Nat.reduceDiv, Nat.reduceMod, xS_flE, hs, e1, e2, e3, n_suc, flE_s (Nat.zero_le i)]
    exact ih (i + 1) (by omega)
theorem j_fill {b n : Nat} {v : Int32} (hs : hS h b = (100, n)) (hn : n < 1000000) : Wc d 233 [.inr (.inr (some b)), .inl v] h Q ↔ Q none (flE h b 0 n v) := by
  have := j_fill_l (d := d) (Q := Q) (v := v) hs hn n 0 (by omega)
  rw [flE_0] at this
  rw [← this, e233]
  simp only [Bk233_0, r_nop, r_goto, r_iconst, r_bipush, r_sipush, r_lconst, r_null, r_ldc, r_ldcw, r_ldcs, r_ldc2, r_aload4, r_aload5, r_aload7, r_aload_n0, r_aload_n1, r_aload_n2, r_aload_n3, r_astore4, r_astore5, r_astore7, r_astore_n1, r_astore_n2, r_astore_n3, r_iload4, r_iload5, r_iload6, r_iload7, r_iload8, r_iload9, r_iload10, r_iload_n0, r_iload_n1, r_iload_n2, r_iload_n3, r_istore4, r_istore5, r_istore6, r_istore7, r_istore8, r_istore9, r_istore10, r_istore_n1, r_istore_n2, r_istore_n3, r_lload4, r_lload8, r_lload10, r_lload_n0, r_lload_n1, r_lload_n2, r_lstore4, r_lstore8, r_lstore10, r_lstore_n1, r_iinc1, r_iinc2, r_iinc3, r_iinc4, r_iinc5, r_iinc6, r_iinc7, r_iinc8, r_iadd, r_isub, r_imul, r_iand, r_ior, r_ixor, r_ishl, r_ishr, r_idiv, r_irem, r_ineg, r_ladd, r_lsub, r_lmul, r_land, r_lor, r_lxor, r_lshl, r_lshr, r_lcmp, r_i2l, r_l2i, r_i2b, r_i2c, r_dupi, r_dupr, r_popi, r_popr, r_dup2, r_if_eq, r_icmp_eq, r_if_ne, r_icmp_ne, r_if_lt, r_icmp_lt, r_if_ge, r_icmp_ge, r_if_gt, r_icmp_gt, r_if_le, r_icmp_le, r_ifnull, r_ifnonnull, r_table, r_lookup, r_getf0, r_gets0, r_getf1, r_gets1, r_getf3, r_gets3, r_getf2, r_gets2, r_putfi, r_putfr, r_iaload, r_baload, r_aaload, r_iastore, r_bastore, r_aastore, r_alen, r_new, r_newa, r_anew, r_copy, r_oinit, r_ci1, r_ci2, r_ci4, r_ci5, r_cs1, r_cs2, r_cs3, r_cs4, r_cv1, r_cv2, r_cv3, r_cv4, r_cv5, r_cv6, r_iret, r_lret, r_aret, r_ret, kl_n, kl_i, kl_r, psh_n, psh_s, lt5_0, lt5_1, lt5_2, lt5_3, lt5_4, ent_0, ent_i, ent_r, ent_j, ent_z, fit_0, fit_1, swix, List.getD_cons_succ, List.getD_cons_zero, Int.reduceEq, Int.reduceLT, Int.reduceSub, Int.reduceToNat, Int.reduceNeg, Int.reduceLE, ti_m1000000, ti_m1000, ti_m100, ti_m50, ti_m3, ti_m2, ti_m1, ti_0, ti_1, ti_2, ti_3, ti_4, ti_5, ti_6, ti_7, ti_8, ti_9, ti_10, ti_11, ti_12, ti_13, ti_14, ti_15, ti_16, ti_17, ti_18, ti_19, ti_20, ti_21, ti_23, ti_24, ti_26, ti_27, ti_28, ti_29, ti_30, ti_32, ti_36, ti_38, ti_39, ti_40, ti_41, ti_42, ti_45, ti_47, ti_48, ti_49, ti_50, ti_51, ti_57, ti_59, ti_60, ti_61, ti_63, ti_64, ti_72, ti_80, ti_90, ti_91, ti_97, ti_99, ti_100, ti_122, ti_160, ti_161, ti_180, ti_200, ti_201, ti_202, ti_240, ti_250, ti_255, ti_288, ti_400, ti_900, ti_1000, ti_1440, ti_1616, ti_2048, ti_2730, ti_12000, ti_100000, tc_0, tc_1, tc_2, tc_3, tc_4, tc_5, tc_6, tc_7, tc_8, tc_9, tc_10, tc_11, tc_12, tc_13, tc_14, tc_15, tc_16, tc_17, tc_18, tc_19, tc_20, tc_21, tc_23, tc_24, tc_26, tc_27, tc_28, tc_29, tc_30, tc_32, tc_36, tc_38, tc_39, tc_40, tc_41, tc_42, tc_45, tc_47, tc_48, tc_49, tc_50, tc_51, tc_57, tc_59, tc_60, tc_61, tc_63, tc_64, tc_72, tc_80, tc_90, tc_91, tc_97, tc_99, tc_100, tc_122, tc_160, tc_161, tc_180, tc_200, tc_201, tc_202, tc_240, tc_250, tc_255, tc_288, tc_400, tc_900, tc_1000, tc_1440, tc_1616, tc_2048, tc_2730, tc_12000, tc_100000, xN_sF, xU_sF, xS_sF, xG_sF, xE_sF, xQ_sF, xN_sG, xU_sG, xS_sG, xF_sG, xE_sG, xQ_sG, xN_sE, xU_sE, xS_sE, xF_sE, xG_sE, xQ_sE, xN_sQ, xU_sQ, xS_sQ, xF_sQ, xG_sQ, xE_sQ, xN_cpE, xU_cpE, xS_cpE, xF_cpE, xG_cpE, xQ_cpE, xN_nw, xU_nw, hF_sF_ne, hF_sF_at, hG_sG_ne, hG_sG_at, hE_sE_ne, hE_sE_at, hQ_sQ_ne, hQ_sQ_at, hE_cpE_ne, hE_cpE_at, kc_m1000000, kc_m1, kc_0, kc_1, kc_2, kc_3, kc_4, kc_5, kc_100000, kb_m100, kb_m50, kb_m3, kb_m2, kb_6, kb_7, kb_8, kb_9, kb_10, kb_11, kb_12, kb_13, kb_14, kb_15, kb_16, kb_17, kb_18, kb_19, kb_20, kb_21, kb_23, kb_24, kb_30, kb_32, kb_36, kb_39, kb_40, kb_41, kb_45, kb_48, kb_50, kb_51, kb_57, kb_59, kb_60, kb_61, kb_63, kb_64, kb_72, kb_80, kb_90, kb_91, kb_97, kb_99, kb_100, kb_122, ks_m1000, ks_160, ks_161, ks_180, ks_200, ks_201, ks_202, ks_240, ks_250, ks_255, ks_288, ks_400, ks_900, ks_1000, ks_1440, ks_1616, ks_2048, ks_2730, ks_12000, kl2_32, kl2_97, kl2_255, kl2_4294967295, klc_0, klc_1, ki_100, ki_200, kb_101, kb_202, kq_302, kq_303, kq_304, kq_308, kq_309, kq_310, ka_100, ka_101, ka_302, ka_303, ka_304, ka_308, ka_309, ka_310, true_and, and_true, true_or, or_true, one_ne, ↓reduceIte, if_true, if_false, ne_eq, not_true_eq_false, not_false_eq_true, or_false, false_or, and_false, false_and, reduceCtorEq, Nat.reduceEqDiff, Nat.reduceLeDiff, Nat.reduceLT, Nat.reduceAdd, Nat.reduceMul, Nat.reduceSub, Nat.reduceDiv, Nat.reduceMod, hs, show (0 : Int32) = Int32.ofNat 0 from rfl]
end H
