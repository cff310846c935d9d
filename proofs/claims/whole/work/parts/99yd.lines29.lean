/-! LINES, 29: the invariant behind it -/
theorem pt_ne : ∀ q ∈ ptL, q.1 ≠ 18 ∧ q.1 ≠ 29 := by decide
theorem St_gs {h : Hp} {k a : Nat} {v : Option Nat} (hk : k = 18 ∨ k = 29) (s : St h) : St (sG h k a v) := by
  obtain ⟨s1, s2, s3, s4, s5, s6, s7, s8, s9, s10, s11, s12⟩ := s
  refine ⟨s1, fun q hq => ?_, s3, s4, s5, s6, s7, s8, fun f q1 q2 => ?_, s10, fun j hj => ?_, s12⟩
  · have := pt_ne q hq
    rw [hG_sG, if_neg (fun w => by omega)]; exact s2 q hq
  · rw [hG_sG, if_neg (fun w => by omega)]; exact s9 f q1 q2
  · obtain ⟨y1, y2, y3⟩ := s11 j hj
    refine ⟨y1, ?_, y3⟩
    rw [hG_sG, if_neg (fun w => by omega)]; exact y2
theorem lines_good {d k nS nC nH nM p i n a x : Nat} {b : Nat → Nat} {h h1 : Hp} (I : InvN k nS nC nH nM h) (D : drS p h) (hp : ∀ i a, hQ h 79 i = some a → hG h 18 a ≠ some p) (T : TB n b) (C : tpM n b h) (hi : i < nH) (ha : hQ h 79 i = some a) (hx : hG h 18 a = some x) (g : frT p h h1) (f1 : hF h1 21 80 = pFk n b) (f2 : hF h1 22 80 = pFp n b) (f3 : hF h1 20 80 = 0) (z : pFk n b = 0) (R : stR (pTp n b).2.2.2.1 p h1) (N : lnR (pTp n b).2.2.1 p h1) :
    Wc (d + 31) 165 [.inr (.inr (some 103)), .inl (Int32.ofNat i)] (sF (sG (sG h1 29 80 (some x)) 18 a (some p)) 85 64 0) (fun r2 h2 => Ow k (some (.inl (Int32.ofNat (pTp n b).2.2.1.length))) r2 h2) := by
  have D' := D
  obtain ⟨d1, d2, d3, d4, d5, d6, d7, d8, pp⟩ := D'
  have s := I.1
  have vH : jH nH h := I.2.2.2.2.2.2.2.2.1
  have vV : jV h := I.2.2.2.2.1
  have c2 : hF h 111 103 = Int32.ofNat nH := vH.2.1
  have n8 : nH ≤ 8 := vH.2.2.1
  obtain ⟨c, c1, hc⟩ := spT_end (b := b) T.1
  have q1 := frQ_T g pp
  obtain ⟨hh, e⟩ : ∃ hh, hh = sF (sG (sG h1 29 80 (some x)) 18 a (some p)) 85 64 0 := ⟨_, rfl⟩
  have s1 : St h1 := frY_St g (fun a w => by simp only [List.mem_cons, List.not_mem_nil, or_false] at w; omega) (by omega) s
  have s2 : St hh := by
    rw [e]
    have := St_gs (k := 18) (a := a) (v := some p) (Or.inl rfl) (St_gs (k := 29) (a := 80) (v := some x) (Or.inr rfl) s1)
    simp only [r_nop, r_goto, r_iconst, r_bipush, r_sipush, r_lconst, r_null, r_ldc, r_ldcw, r_ldcs, r_ldc2, r_aload4, r_aload5, r_aload7, r_aload_n0, r_aload_n1, r_aload_n2, r_aload_n3, r_astore4, r_astore5, r_astore7, r_astore_n1, r_astore_n2, r_astore_n3, r_iload4, r_iload5, r_iload6, r_iload7, r_iload8, r_iload9, r_iload10, r_iload_n0, r_iload_n1, r_iload_n2, r_iload_n3, r_istore4, r_istore5, r_istore6, r_istore7, r_istore8, r_istore9, r_istore10, r_istore_n1, r_istore_n2, r_istore_n3, r_lload4, r_lload8, r_lload10, r_lload_n0, r_lload_n1, r_lload_n2, r_lstore4, r_lstore8, r_lstore10, r_lstore_n1, r_iinc1, r_iinc2, r_iinc3, r_iinc4, r_iinc5, r_iinc6, r_iinc7, r_iinc8, r_iadd, r_isub, r_imul, r_iand, r_ior, r_ixor, r_ishl, r_ishr, r_idiv, r_irem, r_ineg, r_ladd, r_lsub, r_lmul, r_land, r_lor, r_lxor, r_lshl, r_lshr, r_lcmp, r_i2l, r_l2i, r_i2b, r_i2c, r_dupi, r_dupr, r_popi, r_popr, r_dup2, r_if_eq, r_icmp_eq, r_if_ne, r_icmp_ne, r_if_lt, r_icmp_lt, r_if_ge, r_icmp_ge, r_if_gt, r_icmp_gt, r_if_le, r_icmp_le, r_ifnull, r_ifnonnull, r_table, r_lookup, r_getf0, r_gets0, r_getf1, r_gets1, r_getf3, r_gets3, r_getf2, r_gets2, r_putfi, r_putfr, r_iaload, r_baload, r_aaload, r_iastore, r_bastore, r_aastore, r_alen, r_new, r_newa, r_anew, r_copy, r_oinit, r_ci1, r_ci2, r_ci4, r_ci5, r_cs1, r_cs2, r_cs3, r_cs4, r_cv1, r_cv2, r_cv3, r_cv4, r_cv5, r_cv6, r_iret, r_lret, r_aret, r_ret, kl_n, kl_i, kl_r, psh_n, psh_s, lt5_0, lt5_1, lt5_2, lt5_3, lt5_4, ent_0, ent_i, ent_r, ent_j, ent_z, fit_0, fit_1, swix, List.getD_cons_succ, List.getD_cons_zero, Int.reduceEq, Int.reduceLT, Int.reduceSub, Int.reduceToNat, Int.reduceNeg, Int.reduceLE, ti_m1000000, ti_m1000, ti_m100, ti_m50, ti_m3, ti_m2, ti_m1, ti_0, ti_1, ti_2, ti_3, ti_4, ti_5, ti_6, ti_7, ti_8, ti_9, ti_10, ti_11, ti_12, ti_13, ti_14, ti_15, ti_16, ti_17, ti_18, ti_19, ti_20, ti_21, ti_23, ti_24, ti_26, ti_27, ti_28, ti_29, ti_30, ti_32, ti_36, ti_38, ti_39, ti_40, ti_41, ti_42, ti_45, ti_47, ti_48, ti_49, ti_50, ti_51, ti_57, ti_59, ti_60, ti_61, ti_63, ti_64, ti_72, ti_80, ti_90, ti_91, ti_97, ti_99, ti_100, ti_122, ti_160, ti_161, ti_180, ti_200, ti_201, ti_202, ti_240, ti_250, ti_255, ti_288, ti_400, ti_900, ti_1000, ti_1440, ti_1616, ti_2048, ti_2730, ti_12000, ti_100000, tc_0, tc_1, tc_2, tc_3, tc_4, tc_5, tc_6, tc_7, tc_8, tc_9, tc_10, tc_11, tc_12, tc_13, tc_14, tc_15, tc_16, tc_17, tc_18, tc_19, tc_20, tc_21, tc_23, tc_24, tc_26, tc_27, tc_28, tc_29, tc_30, tc_32, tc_36, tc_38, tc_39, tc_40, tc_41, tc_42, tc_45, tc_47, tc_48, tc_49, tc_50, tc_51, tc_57, tc_59, tc_60, tc_61, tc_63, tc_64, tc_72, tc_80, tc_90, tc_91, tc_97, tc_99, tc_100, tc_122, tc_160, tc_161, tc_180, tc_200, tc_201, tc_202, tc_240, tc_250, tc_255, tc_288, tc_400, tc_900, tc_1000, tc_1440, tc_1616, tc_2048, tc_2730, tc_12000, tc_100000, xN_sF, xU_sF, xS_sF, xG_sF, xE_sF, xQ_sF, xN_sG, xU_sG, xS_sG, xF_sG, xE_sG, xQ_sG, xN_sE, xU_sE, xS_sE, xF_sE, xG_sE, xQ_sE, xN_sQ, xU_sQ, xS_sQ, xF_sQ, xG_sQ, xE_sQ, xN_cpE, xU_cpE, xS_cpE, xF_cpE, xG_cpE, xQ_cpE, xN_nw, xU_nw, hF_sF_ne, hF_sF_at, hG_sG_ne, hG_sG_at, hE_sE_ne, hE_sE_at, hQ_sQ_ne, hQ_sQ_at, hE_cpE_ne, hE_cpE_at, kc_m1000000, kc_m1, kc_0, kc_1, kc_2, kc_3, kc_4, kc_5, kc_100000, kb_m100, kb_m50, kb_m3, kb_m2, kb_6, kb_7, kb_8, kb_9, kb_10, kb_11, kb_12, kb_13, kb_14, kb_15, kb_16, kb_17, kb_18, kb_19, kb_20, kb_21, kb_23, kb_24, kb_30, kb_32, kb_36, kb_39, kb_40, kb_41, kb_45, kb_48, kb_50, kb_51, kb_57, kb_59, kb_60, kb_61, kb_63, kb_64, kb_72, kb_80, kb_90, kb_91, kb_97, kb_99, kb_100, kb_122, ks_m1000, ks_160, ks_161, ks_180, ks_200, ks_201, ks_202, ks_240, ks_250, ks_255, ks_288, ks_400, ks_900, ks_1000, ks_1440, ks_1616, ks_2048, ks_2730, ks_12000, kl2_32, kl2_97, kl2_255, kl2_4294967295, klc_0, klc_1, ki_100, ki_200, kb_101, kb_202, kq_302, kq_303, kq_304, kq_308, kq_309, kq_310, ka_100, ka_101, ka_302, ka_303, ka_304, ka_308, ka_309, ka_310, true_and, and_true, true_or, or_true, one_ne, ↓reduceIte, if_true, if_false, ne_eq, not_true_eq_false, not_false_eq_true, or_false, false_or, and_false, false_and, reduceCtorEq, Nat.reduceEqDiff, Nat.reduceLeDiff, Nat.reduceLT, Nat.reduceAdd, Nat.reduceMul, Nat.reduceSub, Nat.reduceDiv, Nat.reduceMod, s_64, s_65, s_66, s_67, s_68, s_69, s_70, s_71, s_72, s_73, s_74, s_75, s_76, s_77, s_78, s_79, s_80, s_81, s_82, s_83, s_84, s_85, s_86, s_87, s_88, s_89, s_90, s_91, s_92, s_93, s_94, s_95, s_96, s_97, s_98, s_99, s_100, s_101, s_102, s_103, s_104, s_105, s_106, s_107, s_108, s_109, s_110, s_111, s_112, s_113, s_114, s_115, s_116, s_117, s_118, s_119, s_120, s_121, s_122, s_123, s_124, s_125, s_126, s_127, s_128, s_129, s_130, s_131, s_132, s_133, s_134, s_135, s_136, s_137, s_138, s_139, s_140, s_141, s_142, s_143, s_144, s_145, s_146, s_147, s_148, s_149, s_150, p_0_92, p_19_80, p_23_80, p_24_80, p_25_80, p_30_85, p_32_85, p_33_85, p_39_67, p_40_67, p_42_67, p_43_67, p_44_67, p_45_67, p_46_67, p_47_67, p_48_67, p_49_67, p_59_95, p_59_97, p_59_99, p_59_101, p_68_64, p_70_64, p_72_64, p_73_64, p_75_64, p_77_64, p_78_64, p_80_64, p_82_64, p_83_64, p_84_64, p_87_103, p_88_103, p_89_103, p_90_103, p_91_103, p_92_103, p_93_103, p_94_103, p_95_103, p_98_103, p_99_103, p_100_103, p_101_103, p_102_103, p_103_103, p_104_103, p_105_103, p_106_103, p_107_103, p_108_103, p_109_103, p_112_103, p_113_103, p_114_103, p_115_103, p_117_103, p_118_103, p_119_103, p_120_103, p_121_103, p_122_103, p_123_103, p_124_103, p_128_103, p_129_103, p_130_103, p_132_103, p_140_103, p_142_103, p_143_103, p_148_103, p_149_103, p_150_103, p_151_103, p_152_103, p_153_103, p_154_103, s_1, p_200_0, s_2, p_201_0, s_3, p_202_0, s_4, p_203_0, s_10, p_160_10, f_161_10, s_20, s_11, p_160_11, f_161_11, s_21, s_12, p_160_12, f_161_12, s_22, s_13, p_160_13, f_161_13, s_23, s_14, p_160_14, f_161_14, s_24, s_15, p_160_15, f_161_15, s_25, s_16, p_160_16, f_161_16, s_26, s_17, p_160_17, f_161_17, s_27, s_18, p_160_18, f_161_18, s_28, f_204_0, St_sF, St_sE, St_sQ]; exact this
  have x80 : ∀ f, hF hh f 80 = hF h1 f 80 := fun f => by rw [e, hF_sF, if_neg (fun w => absurd w.2 (by decide)), xF_sG, xF_sG]
  have xF : ∀ f, f ≠ 85 → hF hh f = hF h1 f := fun f w => by funext y; rw [e, hF_sF, if_neg (fun q => w q.1), xF_sG, xF_sG]
  have xE : hE hh = hE h1 := by rw [e, xE_sF, xE_sG, xE_sG]
  have hds : hF hh 111 103 = Int32.ofNat nH := by rw [xF _ (by decide), q1.2.2.2.2.2.1 111 (by decide)]; exact c2
  have C2 : tpM n b hh := by
    unfold tpM at C ⊢
    have e1 : hF hh 125 103 = hF h 125 103 := by
      rw [xF _ (by decide)]
      exact g.2.2.2.2.2.1 _ _ (fun w => absurd w (by decide)) (fun w => by omega)
    rw [e1, xE, q1.2.2.2.2.2.2.2 136 (by decide) (by decide) (by decide) (by decide) (by decide) (by omega) (by omega) (by omega)]
    exact C
  have W := tkW_of T hc
  have n160 := T.1
  have sp160 : ∀ j, spT n b j ≤ 160 := fun j => by have := (spT_r n b j).2; omega
  have ok := pAl_ok (N := nuT n b) (S := spT n b) W sp160 12 0 [] [] none (Nat.zero_le _) (by show 3 * 0 ≤ _; omega) (fun s w => by cases w) (fun s hs => absurd hs List.not_mem_nil)
  have pD := pAl_D (N := nuT n b) (S := spT n b) W 12 0 [] [] none (Nat.zero_le _) ⟨rfl, fun i hi => absurd hi (Nat.not_lt_zero i)⟩
  obtain ⟨X, hX⟩ : ∃ X, X = pTp n b := ⟨_, rfl⟩
  have hX' : X = pAl (kdT n b) (nuT n b) (spT n b) 12 0 [] [] none := hX
  rw [← hX'] at ok pD
  have pst : pSt n b = true := by
    unfold pFk at z
    by_cases w : pSt n b = true
    · exact w
    · rw [if_neg w] at z; exact absurd z (by decide)
  have bn : X.2.2.2.2 = none := by
    unfold pFk at z
    rw [if_pos pst, ← hX] at z
    cases w : X.2.2.2.2 with
    | none => rfl
    | some y => rw [w] at z; exact absurd z (show ¬ (2 : Int32) = 0 by decide)
  have z1 : X.1 = true := by
    unfold pSt at pst; rw [← hX] at pst
    simp only [Bool.and_eq_true] at pst; exact pst.1
  have pD := pD z1
  rw [bn] at pD
  obtain ⟨-, -, ts12, L160, okL⟩ := ok
  have ts12 : X.2.2.1.length ≤ 12 := by have : ([] : List (Nat × Nat)).length = 0 := rfl; omega
  rw [← e]
  refine m_lines (d := d) (h0 := hh) T hc c1 s2 C2 (by omega) (by rw [hds, tn_i (by omega)]; omega) (by
    rw [hds]
    intro w
    rcases w with w | w
    · rw [i_lt, ti_0, tn_i (by omega)] at w; omega
    · rw [n_le (by omega) (by omega)] at w; omega) (fun w => absurd z w) (fun _ h2 gz k1 k2 k3 R2 l2 _ => ?_)
  rw [← hX] at R N R2 l2 ⊢
  obtain ⟨ts, hts⟩ : ∃ ts, ts = X.2.2.1 := ⟨_, rfl⟩
  obtain ⟨L, hL⟩ : ∃ L, L = X.2.2.2.1 := ⟨_, rfl⟩
  rw [← hts] at N l2 pD ts12 ⊢
  rw [← hL] at R R2 pD L160 okL ⊢
  obtain ⟨H, eH⟩ : ∃ H, H = sF (cpE (cpE (sE h2 126 i (Int32.ofNat ts.length)) 141 0 127 (36 * i) (3 * ts.length)) 142 0 128 (180 * i) (3 * L.length)) 131 103 0 := ⟨_, rfl⟩
  rw [← eH]
  -- the heap
  have st2 : St h2 := frX_St gz (by decide) (by decide) s2
  have sH : St H := by rw [eH]; simp only [r_nop, r_goto, r_iconst, r_bipush, r_sipush, r_lconst, r_null, r_ldc, r_ldcw, r_ldcs, r_ldc2, r_aload4, r_aload5, r_aload7, r_aload_n0, r_aload_n1, r_aload_n2, r_aload_n3, r_astore4, r_astore5, r_astore7, r_astore_n1, r_astore_n2, r_astore_n3, r_iload4, r_iload5, r_iload6, r_iload7, r_iload8, r_iload9, r_iload10, r_iload_n0, r_iload_n1, r_iload_n2, r_iload_n3, r_istore4, r_istore5, r_istore6, r_istore7, r_istore8, r_istore9, r_istore10, r_istore_n1, r_istore_n2, r_istore_n3, r_lload4, r_lload8, r_lload10, r_lload_n0, r_lload_n1, r_lload_n2, r_lstore4, r_lstore8, r_lstore10, r_lstore_n1, r_iinc1, r_iinc2, r_iinc3, r_iinc4, r_iinc5, r_iinc6, r_iinc7, r_iinc8, r_iadd, r_isub, r_imul, r_iand, r_ior, r_ixor, r_ishl, r_ishr, r_idiv, r_irem, r_ineg, r_ladd, r_lsub, r_lmul, r_land, r_lor, r_lxor, r_lshl, r_lshr, r_lcmp, r_i2l, r_l2i, r_i2b, r_i2c, r_dupi, r_dupr, r_popi, r_popr, r_dup2, r_if_eq, r_icmp_eq, r_if_ne, r_icmp_ne, r_if_lt, r_icmp_lt, r_if_ge, r_icmp_ge, r_if_gt, r_icmp_gt, r_if_le, r_icmp_le, r_ifnull, r_ifnonnull, r_table, r_lookup, r_getf0, r_gets0, r_getf1, r_gets1, r_getf3, r_gets3, r_getf2, r_gets2, r_putfi, r_putfr, r_iaload, r_baload, r_aaload, r_iastore, r_bastore, r_aastore, r_alen, r_new, r_newa, r_anew, r_copy, r_oinit, r_ci1, r_ci2, r_ci4, r_ci5, r_cs1, r_cs2, r_cs3, r_cs4, r_cv1, r_cv2, r_cv3, r_cv4, r_cv5, r_cv6, r_iret, r_lret, r_aret, r_ret, kl_n, kl_i, kl_r, psh_n, psh_s, lt5_0, lt5_1, lt5_2, lt5_3, lt5_4, ent_0, ent_i, ent_r, ent_j, ent_z, fit_0, fit_1, swix, List.getD_cons_succ, List.getD_cons_zero, Int.reduceEq, Int.reduceLT, Int.reduceSub, Int.reduceToNat, Int.reduceNeg, Int.reduceLE, ti_m1000000, ti_m1000, ti_m100, ti_m50, ti_m3, ti_m2, ti_m1, ti_0, ti_1, ti_2, ti_3, ti_4, ti_5, ti_6, ti_7, ti_8, ti_9, ti_10, ti_11, ti_12, ti_13, ti_14, ti_15, ti_16, ti_17, ti_18, ti_19, ti_20, ti_21, ti_23, ti_24, ti_26, ti_27, ti_28, ti_29, ti_30, ti_32, ti_36, ti_38, ti_39, ti_40, ti_41, ti_42, ti_45, ti_47, ti_48, ti_49, ti_50, ti_51, ti_57, ti_59, ti_60, ti_61, ti_63, ti_64, ti_72, ti_80, ti_90, ti_91, ti_97, ti_99, ti_100, ti_122, ti_160, ti_161, ti_180, ti_200, ti_201, ti_202, ti_240, ti_250, ti_255, ti_288, ti_400, ti_900, ti_1000, ti_1440, ti_1616, ti_2048, ti_2730, ti_12000, ti_100000, tc_0, tc_1, tc_2, tc_3, tc_4, tc_5, tc_6, tc_7, tc_8, tc_9, tc_10, tc_11, tc_12, tc_13, tc_14, tc_15, tc_16, tc_17, tc_18, tc_19, tc_20, tc_21, tc_23, tc_24, tc_26, tc_27, tc_28, tc_29, tc_30, tc_32, tc_36, tc_38, tc_39, tc_40, tc_41, tc_42, tc_45, tc_47, tc_48, tc_49, tc_50, tc_51, tc_57, tc_59, tc_60, tc_61, tc_63, tc_64, tc_72, tc_80, tc_90, tc_91, tc_97, tc_99, tc_100, tc_122, tc_160, tc_161, tc_180, tc_200, tc_201, tc_202, tc_240, tc_250, tc_255, tc_288, tc_400, tc_900, tc_1000, tc_1440, tc_1616, tc_2048, tc_2730, tc_12000, tc_100000, xN_sF, xU_sF, xS_sF, xG_sF, xE_sF, xQ_sF, xN_sG, xU_sG, xS_sG, xF_sG, xE_sG, xQ_sG, xN_sE, xU_sE, xS_sE, xF_sE, xG_sE, xQ_sE, xN_sQ, xU_sQ, xS_sQ, xF_sQ, xG_sQ, xE_sQ, xN_cpE, xU_cpE, xS_cpE, xF_cpE, xG_cpE, xQ_cpE, xN_nw, xU_nw, hF_sF_ne, hF_sF_at, hG_sG_ne, hG_sG_at, hE_sE_ne, hE_sE_at, hQ_sQ_ne, hQ_sQ_at, hE_cpE_ne, hE_cpE_at, kc_m1000000, kc_m1, kc_0, kc_1, kc_2, kc_3, kc_4, kc_5, kc_100000, kb_m100, kb_m50, kb_m3, kb_m2, kb_6, kb_7, kb_8, kb_9, kb_10, kb_11, kb_12, kb_13, kb_14, kb_15, kb_16, kb_17, kb_18, kb_19, kb_20, kb_21, kb_23, kb_24, kb_30, kb_32, kb_36, kb_39, kb_40, kb_41, kb_45, kb_48, kb_50, kb_51, kb_57, kb_59, kb_60, kb_61, kb_63, kb_64, kb_72, kb_80, kb_90, kb_91, kb_97, kb_99, kb_100, kb_122, ks_m1000, ks_160, ks_161, ks_180, ks_200, ks_201, ks_202, ks_240, ks_250, ks_255, ks_288, ks_400, ks_900, ks_1000, ks_1440, ks_1616, ks_2048, ks_2730, ks_12000, kl2_32, kl2_97, kl2_255, kl2_4294967295, klc_0, klc_1, ki_100, ki_200, kb_101, kb_202, kq_302, kq_303, kq_304, kq_308, kq_309, kq_310, ka_100, ka_101, ka_302, ka_303, ka_304, ka_308, ka_309, ka_310, true_and, and_true, true_or, or_true, one_ne, ↓reduceIte, if_true, if_false, ne_eq, not_true_eq_false, not_false_eq_true, or_false, false_or, and_false, false_and, reduceCtorEq, Nat.reduceEqDiff, Nat.reduceLeDiff, Nat.reduceLT, Nat.reduceAdd, Nat.reduceMul, Nat.reduceSub, Nat.reduceDiv, Nat.reduceMod, s_64, s_65, s_66, s_67, s_68, s_69, s_70, s_71, s_72, s_73, s_74, s_75, s_76, s_77, s_78, s_79, s_80, s_81, s_82, s_83, s_84, s_85, s_86, s_87, s_88, s_89, s_90, s_91, s_92, s_93, s_94, s_95, s_96, s_97, s_98, s_99, s_100, s_101, s_102, s_103, s_104, s_105, s_106, s_107, s_108, s_109, s_110, s_111, s_112, s_113, s_114, s_115, s_116, s_117, s_118, s_119, s_120, s_121, s_122, s_123, s_124, s_125, s_126, s_127, s_128, s_129, s_130, s_131, s_132, s_133, s_134, s_135, s_136, s_137, s_138, s_139, s_140, s_141, s_142, s_143, s_144, s_145, s_146, s_147, s_148, s_149, s_150, p_0_92, p_19_80, p_23_80, p_24_80, p_25_80, p_30_85, p_32_85, p_33_85, p_39_67, p_40_67, p_42_67, p_43_67, p_44_67, p_45_67, p_46_67, p_47_67, p_48_67, p_49_67, p_59_95, p_59_97, p_59_99, p_59_101, p_68_64, p_70_64, p_72_64, p_73_64, p_75_64, p_77_64, p_78_64, p_80_64, p_82_64, p_83_64, p_84_64, p_87_103, p_88_103, p_89_103, p_90_103, p_91_103, p_92_103, p_93_103, p_94_103, p_95_103, p_98_103, p_99_103, p_100_103, p_101_103, p_102_103, p_103_103, p_104_103, p_105_103, p_106_103, p_107_103, p_108_103, p_109_103, p_112_103, p_113_103, p_114_103, p_115_103, p_117_103, p_118_103, p_119_103, p_120_103, p_121_103, p_122_103, p_123_103, p_124_103, p_128_103, p_129_103, p_130_103, p_132_103, p_140_103, p_142_103, p_143_103, p_148_103, p_149_103, p_150_103, p_151_103, p_152_103, p_153_103, p_154_103, s_1, p_200_0, s_2, p_201_0, s_3, p_202_0, s_4, p_203_0, s_10, p_160_10, f_161_10, s_20, s_11, p_160_11, f_161_11, s_21, s_12, p_160_12, f_161_12, s_22, s_13, p_160_13, f_161_13, s_23, s_14, p_160_14, f_161_14, s_24, s_15, p_160_15, f_161_15, s_25, s_16, p_160_16, f_161_16, s_26, s_17, p_160_17, f_161_17, s_27, s_18, p_160_18, f_161_18, s_28, f_204_0, St_sF, St_sE, St_sQ, St_cpE]; exact st2
  have aN : hN H = hN h1 := by rw [eH]; simp only [xN_sF, xU_sF, xS_sF, xG_sF, xE_sF, xQ_sF, xN_sG, xU_sG, xS_sG, xF_sG, xE_sG, xQ_sG, xN_sE, xU_sE, xS_sE, xF_sE, xG_sE, xQ_sE, xN_sQ, xU_sQ, xS_sQ, xF_sQ, xG_sQ, xE_sQ, xN_cpE, xU_cpE, xS_cpE, xF_cpE, xG_cpE, xQ_cpE, xN_nw, xU_nw, hF_sF_ne, hF_sF_at, hG_sG_ne, hG_sG_at, hE_sE_ne, hE_sE_at, hQ_sQ_ne, hQ_sQ_at, hE_cpE_ne, hE_cpE_at, St_sF, St_sE, St_sQ, eD_sF, eD_sG, eD_sQ, eD_sE, eD_cpE, qD_sF, qD_sG, qD_sE, qD_sQ, qD_cpE, true_and, and_true, true_or, or_true, or_false, false_or, ↓reduceIte, if_true, if_false, ne_eq, not_true_eq_false, not_false_eq_true, and_false, false_and, Nat.reduceEqDiff, Nat.reduceLeDiff, Nat.reduceLT, Nat.reduceAdd, Nat.reduceMul, Nat.reduceSub, Nat.reduceDiv, Nat.reduceMod]; rw [gz.1, e]; simp only [xN_sF, xU_sF, xS_sF, xG_sF, xE_sF, xQ_sF, xN_sG, xU_sG, xS_sG, xF_sG, xE_sG, xQ_sG, xN_sE, xU_sE, xS_sE, xF_sE, xG_sE, xQ_sE, xN_sQ, xU_sQ, xS_sQ, xF_sQ, xG_sQ, xE_sQ, xN_cpE, xU_cpE, xS_cpE, xF_cpE, xG_cpE, xQ_cpE, xN_nw, xU_nw, hF_sF_ne, hF_sF_at, hG_sG_ne, hG_sG_at, hE_sE_ne, hE_sE_at, hQ_sQ_ne, hQ_sQ_at, hE_cpE_ne, hE_cpE_at, St_sF, St_sE, St_sQ, eD_sF, eD_sG, eD_sQ, eD_sE, eD_cpE, qD_sF, qD_sG, qD_sE, qD_sQ, qD_cpE, true_and, and_true, true_or, or_true, or_false, false_or, ↓reduceIte, if_true, if_false, ne_eq, not_true_eq_false, not_false_eq_true, and_false, false_and, Nat.reduceEqDiff, Nat.reduceLeDiff, Nat.reduceLT, Nat.reduceAdd, Nat.reduceMul, Nat.reduceSub, Nat.reduceDiv, Nat.reduceMod]
  have aU : hU H = hU h1 := by rw [eH]; simp only [xN_sF, xU_sF, xS_sF, xG_sF, xE_sF, xQ_sF, xN_sG, xU_sG, xS_sG, xF_sG, xE_sG, xQ_sG, xN_sE, xU_sE, xS_sE, xF_sE, xG_sE, xQ_sE, xN_sQ, xU_sQ, xS_sQ, xF_sQ, xG_sQ, xE_sQ, xN_cpE, xU_cpE, xS_cpE, xF_cpE, xG_cpE, xQ_cpE, xN_nw, xU_nw, hF_sF_ne, hF_sF_at, hG_sG_ne, hG_sG_at, hE_sE_ne, hE_sE_at, hQ_sQ_ne, hQ_sQ_at, hE_cpE_ne, hE_cpE_at, St_sF, St_sE, St_sQ, eD_sF, eD_sG, eD_sQ, eD_sE, eD_cpE, qD_sF, qD_sG, qD_sE, qD_sQ, qD_cpE, true_and, and_true, true_or, or_true, or_false, false_or, ↓reduceIte, if_true, if_false, ne_eq, not_true_eq_false, not_false_eq_true, and_false, false_and, Nat.reduceEqDiff, Nat.reduceLeDiff, Nat.reduceLT, Nat.reduceAdd, Nat.reduceMul, Nat.reduceSub, Nat.reduceDiv, Nat.reduceMod]; rw [gz.2.1, e]; simp only [xN_sF, xU_sF, xS_sF, xG_sF, xE_sF, xQ_sF, xN_sG, xU_sG, xS_sG, xF_sG, xE_sG, xQ_sG, xN_sE, xU_sE, xS_sE, xF_sE, xG_sE, xQ_sE, xN_sQ, xU_sQ, xS_sQ, xF_sQ, xG_sQ, xE_sQ, xN_cpE, xU_cpE, xS_cpE, xF_cpE, xG_cpE, xQ_cpE, xN_nw, xU_nw, hF_sF_ne, hF_sF_at, hG_sG_ne, hG_sG_at, hE_sE_ne, hE_sE_at, hQ_sQ_ne, hQ_sQ_at, hE_cpE_ne, hE_cpE_at, St_sF, St_sE, St_sQ, eD_sF, eD_sG, eD_sQ, eD_sE, eD_cpE, qD_sF, qD_sG, qD_sE, qD_sQ, qD_cpE, true_and, and_true, true_or, or_true, or_false, false_or, ↓reduceIte, if_true, if_false, ne_eq, not_true_eq_false, not_false_eq_true, and_false, false_and, Nat.reduceEqDiff, Nat.reduceLeDiff, Nat.reduceLT, Nat.reduceAdd, Nat.reduceMul, Nat.reduceSub, Nat.reduceDiv, Nat.reduceMod]
  have aS : hS H = hS h1 := by rw [eH]; simp only [xN_sF, xU_sF, xS_sF, xG_sF, xE_sF, xQ_sF, xN_sG, xU_sG, xS_sG, xF_sG, xE_sG, xQ_sG, xN_sE, xU_sE, xS_sE, xF_sE, xG_sE, xQ_sE, xN_sQ, xU_sQ, xS_sQ, xF_sQ, xG_sQ, xE_sQ, xN_cpE, xU_cpE, xS_cpE, xF_cpE, xG_cpE, xQ_cpE, xN_nw, xU_nw, hF_sF_ne, hF_sF_at, hG_sG_ne, hG_sG_at, hE_sE_ne, hE_sE_at, hQ_sQ_ne, hQ_sQ_at, hE_cpE_ne, hE_cpE_at, St_sF, St_sE, St_sQ, eD_sF, eD_sG, eD_sQ, eD_sE, eD_cpE, qD_sF, qD_sG, qD_sE, qD_sQ, qD_cpE, true_and, and_true, true_or, or_true, or_false, false_or, ↓reduceIte, if_true, if_false, ne_eq, not_true_eq_false, not_false_eq_true, and_false, false_and, Nat.reduceEqDiff, Nat.reduceLeDiff, Nat.reduceLT, Nat.reduceAdd, Nat.reduceMul, Nat.reduceSub, Nat.reduceDiv, Nat.reduceMod]; rw [gz.2.2.1, e]; simp only [xN_sF, xU_sF, xS_sF, xG_sF, xE_sF, xQ_sF, xN_sG, xU_sG, xS_sG, xF_sG, xE_sG, xQ_sG, xN_sE, xU_sE, xS_sE, xF_sE, xG_sE, xQ_sE, xN_sQ, xU_sQ, xS_sQ, xF_sQ, xG_sQ, xE_sQ, xN_cpE, xU_cpE, xS_cpE, xF_cpE, xG_cpE, xQ_cpE, xN_nw, xU_nw, hF_sF_ne, hF_sF_at, hG_sG_ne, hG_sG_at, hE_sE_ne, hE_sE_at, hQ_sQ_ne, hQ_sQ_at, hE_cpE_ne, hE_cpE_at, St_sF, St_sE, St_sQ, eD_sF, eD_sG, eD_sQ, eD_sE, eD_cpE, qD_sF, qD_sG, qD_sE, qD_sQ, qD_cpE, true_and, and_true, true_or, or_true, or_false, false_or, ↓reduceIte, if_true, if_false, ne_eq, not_true_eq_false, not_false_eq_true, and_false, false_and, Nat.reduceEqDiff, Nat.reduceLeDiff, Nat.reduceLT, Nat.reduceAdd, Nat.reduceMul, Nat.reduceSub, Nat.reduceDiv, Nat.reduceMod]
  have aQ : hQ H = hQ h1 := by rw [eH]; simp only [xN_sF, xU_sF, xS_sF, xG_sF, xE_sF, xQ_sF, xN_sG, xU_sG, xS_sG, xF_sG, xE_sG, xQ_sG, xN_sE, xU_sE, xS_sE, xF_sE, xG_sE, xQ_sE, xN_sQ, xU_sQ, xS_sQ, xF_sQ, xG_sQ, xE_sQ, xN_cpE, xU_cpE, xS_cpE, xF_cpE, xG_cpE, xQ_cpE, xN_nw, xU_nw, hF_sF_ne, hF_sF_at, hG_sG_ne, hG_sG_at, hE_sE_ne, hE_sE_at, hQ_sQ_ne, hQ_sQ_at, hE_cpE_ne, hE_cpE_at, St_sF, St_sE, St_sQ, eD_sF, eD_sG, eD_sQ, eD_sE, eD_cpE, qD_sF, qD_sG, qD_sE, qD_sQ, qD_cpE, true_and, and_true, true_or, or_true, or_false, false_or, ↓reduceIte, if_true, if_false, ne_eq, not_true_eq_false, not_false_eq_true, and_false, false_and, Nat.reduceEqDiff, Nat.reduceLeDiff, Nat.reduceLT, Nat.reduceAdd, Nat.reduceMul, Nat.reduceSub, Nat.reduceDiv, Nat.reduceMod]; rw [gz.2.2.2.2.1, e]; simp only [xN_sF, xU_sF, xS_sF, xG_sF, xE_sF, xQ_sF, xN_sG, xU_sG, xS_sG, xF_sG, xE_sG, xQ_sG, xN_sE, xU_sE, xS_sE, xF_sE, xG_sE, xQ_sE, xN_sQ, xU_sQ, xS_sQ, xF_sQ, xG_sQ, xE_sQ, xN_cpE, xU_cpE, xS_cpE, xF_cpE, xG_cpE, xQ_cpE, xN_nw, xU_nw, hF_sF_ne, hF_sF_at, hG_sG_ne, hG_sG_at, hE_sE_ne, hE_sE_at, hQ_sQ_ne, hQ_sQ_at, hE_cpE_ne, hE_cpE_at, St_sF, St_sE, St_sQ, eD_sF, eD_sG, eD_sQ, eD_sE, eD_cpE, qD_sF, qD_sG, qD_sE, qD_sQ, qD_cpE, true_and, and_true, true_or, or_true, or_false, false_or, ↓reduceIte, if_true, if_false, ne_eq, not_true_eq_false, not_false_eq_true, and_false, false_and, Nat.reduceEqDiff, Nat.reduceLeDiff, Nat.reduceLT, Nat.reduceAdd, Nat.reduceMul, Nat.reduceSub, Nat.reduceDiv, Nat.reduceMod]
  have aG : ∀ f y, hG H f y = if f = 18 ∧ y = a then some p else if f = 29 ∧ y = 80 then some x else hG h1 f y := fun f y => by
    rw [eH, xG_sF, xG_cpE, xG_cpE, xG_sE, gz.2.2.2.1, e, xG_sF, hG_sG, hG_sG]
  have aF : ∀ f y, f ≠ 131 → f ≠ 85 → (y = 103 → f < 125 ∨ 127 < f ∧ f < 134 ∨ 141 < f) → hF H f y = hF h1 f y := fun f y w1 w2 w3 => by
    rw [eH, hF_sF, if_neg (fun w => w1 w.1), xF_cpE, xF_cpE, xF_sE, gz.2.2.2.2.2.1 f y (fun q w => by simp only [List.mem_cons, List.not_mem_nil, or_false] at w; have := w3 q; omega), xF _ w2]
  have aF' : ∀ f, f < 85 ∨ (85 < f ∧ f < 125) ∨ (127 < f ∧ f < 131) ∨ (131 < f ∧ f < 134) ∨ 141 < f → hF H f = hF h1 f := fun f w => by funext y; exact aF f y (by show f ≠ 131; omega) (by show f ≠ 85; omega) (fun _ => by omega)
  have aE2 : ∀ y, y ≠ 141 → y ≠ 142 → hE h2 y = hE h1 y := fun y w1 w2 => by
    rw [gz.2.2.2.2.2.2 y (by simp only [List.mem_cons, List.not_mem_nil, or_false]; omega), xE]
  have aE : ∀ y, y < 126 ∨ (128 < y ∧ y < 141) ∨ 142 < y → hE H y = hE h1 y := fun y w => by
    rw [eH, xE_sF, hE_cpE_ne (by omega), hE_cpE_ne (by omega), hE_sE_ne (by omega), aE2 y (by omega) (by omega)]
  have aM : hE H 126 = hE (sE h2 126 i (Int32.ofNat ts.length)) 126 := by rw [eH, xE_sF, hE_cpE_ne (by decide), hE_cpE_ne (by decide)]
  have aL : ∀ y, hE H 127 y = va_cpy (hE h2 141) (hE h1 127) 0 (36 * i) (3 * ts.length) y := fun y => by
    rw [eH, xE_sF, hE_cpE_ne (by decide), hE_cpE_at, hE_sE_ne (by decide), hE_sE_ne (by decide), aE2 127 (by decide) (by decide)]
  have aC : ∀ y, hE H 128 y = va_cpy (hE h2 142) (hE h1 128) 0 (180 * i) (3 * L.length) y := fun y => by
    rw [eH, xE_sF, hE_cpE_at, hE_cpE_ne (by decide), hE_cpE_ne (by decide), hE_sE_ne (by decide), hE_sE_ne (by decide), aE2 128 (by decide) (by decide)]
  have aD : eD H = eD h1 := by
    funext y j
    unfold eD
    by_cases w : y < 86 ∨ 89 ≤ y ∧ y < 151
    · rw [if_pos w, if_pos w]
    · rw [if_neg w, if_neg w, aE y (by omega)]
  have aD2 : qD H = qD h1 := by funext y; unfold qD; rw [aQ]
  have aG' : ∀ f, f < 18 ∨ (18 < f ∧ f < 29) ∨ 29 < f → hG H f = hG h1 f := fun f w => by
    funext y
    rw [aG, if_neg (fun q => by have : f = 18 := q.1; omega), if_neg (fun q => by have : f = 29 := q.1; omega)]
  obtain ⟨uN, uS, uF, uC, uB, uR, uH, uL, uM, uP, uX, uA, uK⟩ := InV_li q1 D hp I
  refine ⟨Int32.ofNat ts.length, rfl, rfl, nS, nC, nH, nM, sH, ?_, ?_, ?_, ?_, ?_, ?_, ?_, ?_, ?_, ?_, ?_, ?_, ?_, ?_, ?_⟩
  · simp only [jN, aN, aU]; exact iN_k uN
  · simp only [jS, aE, aF', aN, aS, aQ, Nat.reduceLT, and_true, and_false, true_and, false_and, or_true, true_or, or_false, false_or]; exact uS
  · simp only [jF, aE, Nat.reduceLT, and_true, and_false, true_and, false_and, or_true, true_or, or_false, false_or]; exact uF
  · have y1 : hF H 85 64 = 0 := by
      rw [eH, hF_sF, if_neg (fun w => absurd w.1 (by decide)), xF_cpE, xF_cpE, xF_sE, gz.2.2.2.2.2.1 _ 64 (fun w => absurd w (by decide)), e, hF_sF, if_pos ⟨rfl, rfl⟩]
    have y2 : hF H 131 103 = 0 := by rw [eH, hF_sF, if_pos ⟨rfl, rfl⟩]
    simp only [jV, aF' 71 (by decide), aF' 96 (by decide), aF' 79 (by decide), aF' 110 (by decide), y1, y2, q1.2.2.2.2.2.1 71 (by decide), q1.2.2.2.2.2.1 96 (by decide), q1.2.2.2.2.2.1 79 (by decide), q1.2.2.2.2.2.1 110 (by decide)]
    exact iV_st 0 vV
  · simp only [jC, aE, aF', aG', aN, aS, aQ, Nat.reduceLT, and_true, and_false, true_and, false_and, or_true, true_or, or_false, false_or]; exact uC
  · simp only [jB, aE, aF', aD2, aN, aS, aQ, Nat.reduceLT, and_true, and_false, true_and, false_and, or_true, true_or, or_false, false_or]; exact uB
  · simp only [jR, aE, aD, aQ, Nat.reduceLT, and_true, and_false, true_and, false_and, or_true, true_or, or_false, false_or]; exact uR
  · have uH' := uH
    simp only [jH] at uH'
    have dr : hG h1 29 80 = some p := by rw [q1.2.2.2.1]; exact d8
    rw [dr] at uH'
    have dH : hG H 29 80 = some x := by rw [aG, if_neg (fun w => absurd w.1 (by decide)), if_pos ⟨rfl, rfl⟩]
    simp only [jH, aE, aF', aG' 30 (by decide), aG' 32 (by decide), aG' 33 (by decide), dH, aN, aS, aQ, Nat.reduceLT, and_true, and_false, true_and, false_and, or_true, true_or, or_false, false_or]
    refine iH_ex (i := i) (a := a) uH' hi (by rw [q1.2.2.2.2.1]; exact ha) (by rw [q1.2.2.2.1]; exact hx) (fun y => ?_) (fun j hj => ?_)
    · rw [aG]
      by_cases w : y = a
      · rw [if_pos ⟨rfl, w⟩, if_pos w]
      · rw [if_neg (fun q => w q.2), if_neg (fun q => absurd q.1 (by decide)), if_neg w]
    · rw [aM, hE_sE_at, if_neg (by omega), aE2 126 (by decide) (by decide)]
  · simp only [jL, aD, aQ]
    intro j b' y hj hy
    have e18 : ∀ y, hG h1 18 y = hG h 18 y := fun y => by rw [q1.2.2.2.1]
    have hj0 : hQ h 79 j = some b' := by rw [← q1.2.2.2.2.1]; exact hj
    rw [aG] at hy
    by_cases w : b' = a
    · have eji : j = i := vH.2.2.2.2.2.1 j i a (by rw [hj0, w]) ha
      subst eji
      rw [if_pos ⟨rfl, w⟩] at hy
      cases hy
      have ed : ∀ m, m = p + 1 ∨ m = p + 2 ∨ m = p + 3 → eD h1 m = hE h1 m := fun m hm => eD_at (by omega)
      refine rln_of (ts := ts) (L := L) pD ts12 L160 okL ?_ ?_ (fun k hk => ?_) (fun k hk => ?_) (fun k hk => ?_) (fun k hk => ?_)
      · rw [aF' 34 (by decide)]; exact N.1
      · rw [aM, hE_sE_at, if_pos rfl]
      · rw [ed _ (Or.inl rfl)]; exact R.2 k hk
      · rw [ed _ (Or.inr (Or.inl rfl)), ed _ (Or.inr (Or.inr rfl))]; exact N.2 k hk
      · obtain ⟨y1, y2, y3⟩ := l2.2 k hk
        refine ⟨?_, ?_, ?_⟩
        · show hE H 127 (36 * j + 3 * k) = _
          rw [aL, cp_in (by omega)]; exact y1
        · show hE H 127 (36 * j + (3 * k + 1)) = _
          rw [aL, cp_in (by omega)]; exact y2
        · show hE H 127 (36 * j + (3 * k + 2)) = _
          rw [aL, cp_in (by omega)]; exact y3
      · obtain ⟨y1, y2, y3⟩ := R2.2 k hk
        refine ⟨?_, ?_, ?_⟩
        · show hE H 128 (180 * j + 3 * k) = _
          rw [aC, cp_in (by omega)]; exact y1
        · show hE H 128 (180 * j + (3 * k + 1)) = _
          rw [aC, cp_in (by omega)]; exact y2
        · show hE H 128 (180 * j + (3 * k + 2)) = _
          rw [aC, cp_in (by omega)]; exact y3
    · rw [if_neg (fun q => w q.2), if_neg (fun q => absurd q.1 (by decide))] at hy
      have nji : j ≠ i := fun q => by rw [q, ha] at hj0; cases hj0; exact w rfl
      have j8 : j < nH := (vH.2.2.2.1 j b' hj0).1
      have u := uL j b' y hj hy
      rw [aF' 34 (by decide), aM, hE_sE_at, if_neg nji, aE2 126 (by decide) (by decide)]
      refine rln_cg u (fun k hk => ?_) (fun k hk => ?_)
      · show hE H 127 (36 * j + k) = _
        rw [aL, cp_out (by omega)]
      · show hE H 128 (180 * j + k) = _
        rw [aC, cp_out (by omega)]
  · simp only [jM, aE, aF', aN, aS, aQ, Nat.reduceLT, and_true, and_false, true_and, false_and, or_true, true_or, or_false, false_or]; exact uM
  · simp only [jP, aE, Nat.reduceLT, and_true, and_false, true_and, false_and, or_true, true_or, or_false, false_or]; exact uP
  · have y1 : ∀ f, f ≠ 85 → f ≠ 131 → hF H f 80 = hF h1 f 80 := fun f w1 w2 => aF f 80 w2 w1 (fun w => absurd w (by decide))
    have y2 : ∀ f, f ≠ 131 → hF H f 103 = hF h2 f 103 := fun f w => by rw [eH, hF_sF, if_neg (fun q => w q.1), xF_cpE, xF_cpE, xF_sE]
    simp only [jT, y1 20 (by decide) (by decide), y1 21 (by decide) (by decide), y1 22 (by decide) (by decide), f1, f2, f3, y2 125 (by decide), y2 126 (by decide), y2 127 (by decide), k1, k2, k3, z]
    exact ⟨⟨0, by decide, rfl, rfl, fun i hi => absurd hi (Nat.not_lt_zero i)⟩, rfl, rfl⟩
  · simp only [jX, aE, aF', Nat.reduceLT, Nat.reduceMul, Nat.reduceAdd, and_true, and_false, true_and, false_and, or_true, true_or, or_false, false_or]; exact uX
  · simp only [jA, aE, aF', Nat.reduceLT, and_true, and_false, true_and, false_and, or_true, true_or, or_false, false_or]; exact uA
  · simp only [jK, aE, aF', Nat.reduceLT, and_true, and_false, true_and, false_and, or_true, true_or, or_false, false_or]; exact uK
