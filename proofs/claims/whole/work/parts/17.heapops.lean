/-! SOUNDNESS, 8: fields, arrays, new cells -/
theorem hq0_eq (base : Nat) (od : Nat → Nat) (D : va_G) (ca : Nat → ClassId) (L : Nat) (xs : Nat → Int32) (fm : Option Nat) : hq0 (base, od, D, ca, L, xs, fm) = hp0 L xs fm := rfl
theorem Iv.old {h0 h : Hp} (i : Iv h0 h) {a : Nat} (h1 : (hS h a).1 = 13 ∨ (hS h a).1 = 200 ∨ (hS h a).1 = 202) : a < 64 := by
  obtain ⟨i1, i2, i3, i4⟩ := i
  rcases Nat.lt_or_ge a 64 with q | q
  · exact q
  · rcases Nat.lt_or_ge a (hN h) with q2 | q2
    · have := i4 a q q2
      unfold okS at this
      simp only [List.mem_cons, List.not_mem_nil, or_false] at this
      omega
    · rw [i3 a q2] at h1
      simp at h1
theorem tys_ref {ca : Nat → ClassId} {k : Nat} (hk : k ∈ [302, 303, 304, 308, 309, 310]) : ∃ t0 : Nat, (tysL ca)[t0]? = some (ca k, FieldType.object (cnm (k - 300))) := by
  simp only [List.mem_cons, List.not_mem_nil, or_false] at hk
  rcases hk with rfl | rfl | rfl | rfl | rfl | rfl
  · exact ⟨2, rfl⟩
  · exact ⟨3, rfl⟩
  · exact ⟨4, rfl⟩
  · exact ⟨5, rfl⟩
  · exact ⟨6, rfl⟩
  · exact ⟨7, rfl⟩
theorem kref_of {h0 h : Hp} (z : Z0 h0) (i : Iv h0 h) {a : Nat} (hq : kq (hS h a).1 = true) : 64 ≤ a ∧ a < hN h ∧ (hS h a).1 ∈ [302, 303, 304, 308, 309, 310] := by
  have h3 : 300 ≤ (hS h a).1 := Nat.le_of_ble_eq_true hq
  obtain ⟨h1, h2⟩ := i.new z (a := a) (by omega) (by omega) (by omega) (by omega)
  refine ⟨h1, h2, ?_⟩
  rcases i.2.2.2 a h1 h2 with q | q | q | q
  · omega
  · omega
  · omega
  · exact q
theorem s0S_13 {L a : Nat} (h : s0S L a = (13, 0)) : 10 ≤ a ∧ a < 19 := by
  unfold s0S at h
  repeat' split at h
  all_goals first | assumption | (exfalso; simp at h; done)
theorem s0S_200 {L a : Nat} (h : (s0S L a).1 = 200) : a ≤ 4 := by
  unfold s0S at h
  repeat' split at h
  all_goals first | omega | (exfalso; simp at h; done)
theorem s0S_202 {L a : Nat} (h : (s0S L a).1 = 202) : 20 ≤ a ∧ a < 29 ∧ (s0S L a).2 = strLen.getD (a - 20) 0 := by
  have h' := h
  unfold s0S at h
  repeat' split at h
  all_goals first | (exfalso; simp at h; done) | skip
  rename_i h1 h2 h3 h4 h5
  exact ⟨h5.1, h5.2, by unfold s0S; rw [if_neg h1, if_neg h2, if_neg h3, if_neg h4, if_pos h5]⟩
theorem vp_of_inb {i : Int32} {n : Nat} (h : inb i n) : vp_in i n := vp_in_iff.mpr h
section HO
variable {X : Cxt} {P : Par} {n0 u0 y d pc : Nat} {lk : List Nat} {z : Int} {ops : List Op} {ls : LV} {st : List AV} {h : Hp} {cl : Nat → List AV → Hp → Rs} {k : List Op → LV → List AV → Hp → Rs} {r : Option AV × Hp}
theorem sn_getfield {n : Nat} (C : Cx X P y d n0) (hI : Iv (hq0 P) h) (hk : chkL y ((pc, .getfield n, lk, z) :: ops) = true) (hr : stp cl k d y (.getfield n) lk z ops ls st h = some r) (ih : ∀ o l s h2, k o l s h2 = some r → chkL y o = true → Iv (hq0 P) h2 → hN h ≤ hN h2 → hU h ≤ hU h2 → GoW X P n0 u0 y o l s h2) : GoW X P n0 u0 y ((pc, .getfield n, lk, z) :: ops) ls st h := by
  obtain ⟨p, l, e, R, s, m, args, below, meth, c, Q⟩ := X
  obtain ⟨base, od, D, ca, L, xs, fm⟩ := P
  obtain ⟨hx, hb, hml, hown, hts, hin, hG0, hbs, hfr, hlo⟩ := C
  obtain ⟨hK, hAO, hNw, hX, hod, hT, hZ, hSt, hRt⟩ := id hG0
  obtain ⟨hd, hpc, hlk, hck⟩ := chk_next hk rfl
  unfold stp at hr
  dsimp only at hr
  split at hr
  · rename_i f c2 t p2 a _
    obtain ⟨hs, hr⟩ := gd_some hr
    intro H locs lsA hR hS2 hL
    have w := ih _ _ _ _ hr hck hI (Nat.le_refl _) (Nat.le_refl _) H locs lsA hR hS2 hL
    rw [hpc] at w
    simp only [lkc] at hlk
    by_cases hc : c2 = 13
    · rw [if_pos hc] at hlk
      subst hc
      have ha : a < 64 := hI.old (Or.inl (by rw [hs]))
      have h13 : s0S L a = (13, 0) := (hI.2.1 a ha).1.symm.trans hs
      have hr10 := s0S_13 h13
      obtain ⟨i, rfl⟩ : ∃ i, a = 10 + i := ⟨a - 10, by omega⟩
      have hi : i < 9 := by omega
      simp only [Bool.or_eq_true, Bool.and_eq_true, decide_eq_true_eq] at hlk
      have hg : al base od (10 + i) = od (10 + i) := al_old ha
      rcases hlk with ⟨⟨rfl, rfl⟩, hw⟩ | ⟨⟨rfl, rfl⟩, hw⟩
      · have hv : hG h 160 (10 + i) = some (20 + i) := by
          rw [((hI.2.1 (10 + i) ha).2.2 160).2]
          show s0G fm 160 (10 + i) = _
          unfold s0G
          rw [if_neg (by omega), if_pos ⟨rfl, by omega, by omega⟩, show 10 + i + 10 = 20 + i by omega]
        rw [if_pos rfl, hv] at w
        refine W.eq (g2 := F0 m pc lsA (.ref (od (10 + i)) :: _)) (by show F0 m pc lsA (.ref (al base od (10 + i)) :: _) = _; rw [hg]) ?_
        refine vk_getf hx hb (hSt.1 i hi).2.2.1 hS2 hown (hts _ (wd_in hw)) (fun x q => q) hd ?_
        refine W.eq ?_ w
        show F0 m (pc + 3) lsA _ = F0 m (pc + 3) lsA (.ref (al base od (20 + i)) :: _)
        rw [al_old (show 20 + i < 64 by omega)]
      · have hv : hF h 161 (10 + i) = 0 := by
          rw [((hI.2.1 (10 + i) ha).2.2 161).1]
          show s0F 161 (10 + i) = _
          unfold s0F
          rw [if_neg (by omega)]
        rw [if_neg (by decide), hv] at w
        refine W.eq (g2 := F0 m pc lsA (.ref (od (10 + i)) :: _)) (by show F0 m pc lsA (.ref (al base od (10 + i)) :: _) = _; rw [hg]) ?_
        exact vk_getf hx hb (hSt.1 i hi).2.1 hS2 hown (hts _ (wd_in hw)) (fun x q => q) hd w
    · rw [if_neg hc] at hlk
      simp only [Bool.and_eq_true, decide_eq_true_eq] at hlk
      obtain ⟨⟨⟨⟨⟨hc1, hc2⟩, hf1⟩, hf2⟩, hft⟩, hw⟩ := hlk
      obtain ⟨h1, h2⟩ := hI.new (Z0_hp0 L xs fm) (a := a) (by rw [hs]; simp only; omega) (by rw [hs]; exact hc) (by rw [hs]; simp only; omega) (by rw [hs]; simp only; omega)
      obtain ⟨q, hq⟩ := wsH_get (base := base) (g := al base od) (ca := ca) (h := h) h1 h2
      rw [cE_obj hs hc2] at hq
      refine W.eq (g2 := F0 m pc lsA (.ref (base + (a - 64)) :: _)) (by show F0 m pc lsA (.ref (al base od a) :: _) = _; rw [al_new h1]) ?_
      refine va_get hx hb hts (cls_in c2 hc1 hc2) hown hK hR q hq (cls_at c2 hc1 hc2) (f - fb c2) hf2 (hts _ (wd_in hw)) (fun x q => q) (flds_get hf2) hd ?_
      refine W.eq ?_ w
      rw [show fb c2 + (f - fb c2) = f by omega]
      unfold fldv
      rw [hft]
      by_cases ht : t = 2
      · rw [if_pos ht, if_pos ht]; rfl
      · rw [if_neg ht, if_neg ht]; rfl
  · exact absurd hr.symm (Option.some_ne_none _)
theorem tyOk {c j : Nat} (h1 : 1 ≤ c) (h2 : c ≤ 12) (hj : j < cN c) {v : Int32} (hv : fitT (ftc (fb c + j)) v) : narrow (cY c j) (.int v) = .int v ∧ fits (cY c j) (.int v) = true := by
  obtain ⟨e, hh⟩ := cls_ft c h1 h2 j hj
  rw [e] at hv hh
  generalize cY c j = ty at hv hh
  cases ty <;> simp only [rtc] at hv hh <;> first | exact ⟨rfl, rfl⟩ | (exact absurd hh (by decide)) | (exact absurd hv id) | skip
  rcases hv with rfl | rfl <;> exact ⟨rfl, rfl⟩
theorem tyOkR {c j : Nat} (h1 : 1 ≤ c) (h2 : c ≤ 12) (hj : j < cN c) (ht : ftc (fb c + j) = 2) (v : Option Nat) : narrow (cY c j) (va_rf v) = va_rf v ∧ fits (cY c j) (va_rf v) = true := by
  obtain ⟨e, -⟩ := cls_ft c h1 h2 j hj
  rw [e] at ht
  generalize cY c j = ty at ht
  cases ty <;> simp only [rtc] at ht <;> first | (exact absurd ht (by decide)) | (cases v <;> exact ⟨rfl, rfl⟩)
theorem flds_len {g : Nat → Nat} {h : Hp} {c a : Nat} : (flds g h c a).length = cN c := by unfold flds; rw [List.length_map, List.length_range]
theorem sn_putfield {n : Nat} (C : Cx X P y d n0) (hI : Iv (hq0 P) h) (hk : chkL y ((pc, .putfield n, lk, z) :: ops) = true) (hr : stp cl k d y (.putfield n) lk z ops ls st h = some r) (ih : ∀ o l s h2, k o l s h2 = some r → chkL y o = true → Iv (hq0 P) h2 → hN h ≤ hN h2 → hU h ≤ hU h2 → GoW X P n0 u0 y o l s h2) : GoW X P n0 u0 y ((pc, .putfield n, lk, z) :: ops) ls st h := by
  obtain ⟨p, l, e, R, s, m, args, below, meth, c, Q⟩ := X
  obtain ⟨base, od, D, ca, L, xs, fm⟩ := P
  obtain ⟨hx, hb, hml, hown, hts, hin, hG0, hbs, hfr, hlo⟩ := C
  obtain ⟨hK, hAO, hNw, hX, hod, hT, hZ, hSt, hRt⟩ := id hG0
  obtain ⟨hd, hpc, hlk, hck⟩ := chk_next hk rfl
  unfold stp at hr
  dsimp only at hr
  split at hr
  · rename_i f c2 t p2 v a st2
    obtain ⟨⟨hs, hfit⟩, hr⟩ := gd_some hr
    intro H locs lsA hR hS2 hL
    simp only [lkc, Bool.and_eq_true, Bool.or_eq_true, decide_eq_true_eq, beq_iff_eq] at hlk
    obtain ⟨⟨⟨⟨⟨⟨hc1, hc2⟩, hf1⟩, hf2⟩, hft⟩, hw⟩, hfin⟩ := hlk
    obtain ⟨h1, h2⟩ := hI.new (Z0_hp0 L xs fm) (a := a) (by rw [hs]; simp only; omega) (by rw [hs]; simp only; omega) (by rw [hs]; simp only; omega) (by rw [hs]; simp only; omega)
    obtain ⟨q, hq⟩ := wsH_get (base := base) (g := al base od) (ca := ca) (h := h) h1 h2
    have hq2 := hq
    rw [cE_obj hs hc2] at hq
    have hff : fb c2 + (f - fb c2) = f := by omega
    have hty := tyOk hc1 hc2 hf2 (v := v) (by rw [hff, hft]; exact hfit)
    have htn : ftc (fb c2 + (f - fb c2)) ≠ 2 := by rw [hff, hft]; intro e2; rw [e2] at hfit; exact hfit
    have hset : (wsH base (al base od) ca h).set q (base + (a - 64), .inr (c2 - 1, (flds (al base od) h c2 a).set (f - fb c2) (.int v))) = wsH base (al base od) ca (sF h f a v) := by
      refine wsH_set (h' := sF h f a v) h1 h2 hq2 rfl (fun b hb => cE_sF_ne hb) ?_
      rw [cE_obj (h := sF h f a v) hs hc2]
      have := flds_sF (g := al base od) (h := h) (c := c2) (a := a) (j := f - fb c2) (v := v) htn
      rw [hff] at this
      rw [this]
    refine W.eq (g2 := F0 m pc lsA (.int v :: .ref (base + (a - 64)) :: _)) (by show F0 m pc lsA (.int v :: .ref (al base od a) :: _) = _; rw [al_new h1]) ?_
    have kk : ∀ (H1 : Heap) (locs1 : List Loc), va_P D clsL ((wsH base (al base od) ca h).set q (base + (a - 64), .inr (c2 - 1, (flds (al base od) h c2 a).set (f - fb c2) (.int v)))) H1 → va_D (fun q => base ≤ q) ((wsH base (al base od) ca h).set q (base + (a - 64), .inr (c2 - 1, (flds (al base od) h c2 a).set (f - fb c2) (.int v)))) → va_S (fun q => base ≤ q) s.heap H1 locs1 → W p l e R s m args below meth c H1 locs1 (hN h - n0) (hU h - u0) Q (F0 m (pc + 3) lsA (st2.map (cv (al base od)))) := by
      intro H1 locs1 hP1 hD1 hS1
      rw [hset] at hP1
      have w := ih _ _ _ _ hr hck (hI.sF h1) (Nat.le_refl _) (Nat.le_refl _) H1 locs1 lsA hP1 hS1 hL
      rw [hpc] at w
      exact w
    rcases hfin with hfin | ⟨hf3, hf4⟩
    · exact va_put hx hb hts (cls_in c2 hc1 hc2) (cY c2) (cls_ty c2 hc1 hc2) (cls_nm c2 hc1 hc2) hown hK hR wsH_D hS2 q hq (cls_at c2 hc1 hc2) (f - fb c2) hf2 (hts _ (wd_in hw)) (fun x q => q) hfin (cls_ty c2 hc1 hc2 _ hf2) hty.1 hty.2 (by rw [flds_len]; exact hf2) hd kk
    · by_cases hfin : (cT c2 (f - fb c2)).2.2.2 = false
      · exact va_put hx hb hts (cls_in c2 hc1 hc2) (cY c2) (cls_ty c2 hc1 hc2) (cls_nm c2 hc1 hc2) hown hK hR wsH_D hS2 q hq (cls_at c2 hc1 hc2) (f - fb c2) hf2 (hts _ (wd_in hw)) (fun x q => q) hfin (cls_ty c2 hc1 hc2 _ hf2) hty.1 hty.2 (by rw [flds_len]; exact hf2) hd kk
      · exact va_putF hx hb hts (cls_in c2 hc1 hc2) (cY c2) (cls_ty c2 hc1 hc2) (cls_nm c2 hc1 hc2) hown hK hR wsH_D hS2 q hq (cls_at c2 hc1 hc2) (f - fb c2) hf2 (hts _ (wd_in hw)) (fun x q => q) (by simpa using hfin) (hin.trans hf3) hf4 (cls_ty c2 hc1 hc2 _ hf2) hty.1 hty.2 (by rw [flds_len]; exact hf2) hd kk
  · rename_i f c2 t p2 v a st2
    obtain ⟨⟨hs, hfit⟩, hr⟩ := gd_some hr
    intro H locs lsA hR hS2 hL
    simp only [lkc, Bool.and_eq_true, Bool.or_eq_true, decide_eq_true_eq, beq_iff_eq] at hlk
    obtain ⟨⟨⟨⟨⟨⟨hc1, hc2⟩, hf1⟩, hf2⟩, hft⟩, hw⟩, hfin⟩ := hlk
    obtain ⟨h1, h2⟩ := hI.new (Z0_hp0 L xs fm) (a := a) (by rw [hs]; simp only; omega) (by rw [hs]; simp only; omega) (by rw [hs]; simp only; omega) (by rw [hs]; simp only; omega)
    obtain ⟨q, hq⟩ := wsH_get (base := base) (g := al base od) (ca := ca) (h := h) h1 h2
    have hq2 := hq
    rw [cE_obj hs hc2] at hq
    have hff : fb c2 + (f - fb c2) = f := by omega
    have htn : ftc (fb c2 + (f - fb c2)) = 2 := by rw [hff, hft]; exact hfit
    have hty := tyOkR hc1 hc2 hf2 htn (v.map (al base od))
    have hset : (wsH base (al base od) ca h).set q (base + (a - 64), .inr (c2 - 1, (flds (al base od) h c2 a).set (f - fb c2) (va_rf (v.map (al base od))))) = wsH base (al base od) ca (sG h f a v) := by
      refine wsH_set (h' := sG h f a v) h1 h2 hq2 rfl (fun b hb => cE_sG_ne hb) ?_
      rw [cE_obj (h := sG h f a v) hs hc2]
      have := flds_sG (g := al base od) (h := h) (c := c2) (a := a) (j := f - fb c2) (v := v) htn
      rw [hff] at this
      rw [this]
    refine W.eq (g2 := F0 m pc lsA (va_rf (v.map (al base od)) :: .ref (base + (a - 64)) :: _)) (by show F0 m pc lsA (va_rf (v.map (al base od)) :: .ref (al base od a) :: _) = _; rw [al_new h1]) ?_
    have kk : ∀ (H1 : Heap) (locs1 : List Loc), va_P D clsL ((wsH base (al base od) ca h).set q (base + (a - 64), .inr (c2 - 1, (flds (al base od) h c2 a).set (f - fb c2) (va_rf (v.map (al base od)))))) H1 → va_D (fun q => base ≤ q) ((wsH base (al base od) ca h).set q (base + (a - 64), .inr (c2 - 1, (flds (al base od) h c2 a).set (f - fb c2) (va_rf (v.map (al base od)))))) → va_S (fun q => base ≤ q) s.heap H1 locs1 → W p l e R s m args below meth c H1 locs1 (hN h - n0) (hU h - u0) Q (F0 m (pc + 3) lsA (st2.map (cv (al base od)))) := by
      intro H1 locs1 hP1 hD1 hS1
      rw [hset] at hP1
      have w := ih _ _ _ _ hr hck (hI.sG h1) (Nat.le_refl _) (Nat.le_refl _) H1 locs1 lsA hP1 hS1 hL
      rw [hpc] at w
      exact w
    rcases hfin with hfin | ⟨hf3, hf4⟩
    · exact va_put hx hb hts (cls_in c2 hc1 hc2) (cY c2) (cls_ty c2 hc1 hc2) (cls_nm c2 hc1 hc2) hown hK hR wsH_D hS2 q hq (cls_at c2 hc1 hc2) (f - fb c2) hf2 (hts _ (wd_in hw)) (fun x q => q) hfin (cls_ty c2 hc1 hc2 _ hf2) hty.1 hty.2 (by rw [flds_len]; exact hf2) hd kk
    · by_cases hfin : (cT c2 (f - fb c2)).2.2.2 = false
      · exact va_put hx hb hts (cls_in c2 hc1 hc2) (cY c2) (cls_ty c2 hc1 hc2) (cls_nm c2 hc1 hc2) hown hK hR wsH_D hS2 q hq (cls_at c2 hc1 hc2) (f - fb c2) hf2 (hts _ (wd_in hw)) (fun x q => q) hfin (cls_ty c2 hc1 hc2 _ hf2) hty.1 hty.2 (by rw [flds_len]; exact hf2) hd kk
      · exact va_putF hx hb hts (cls_in c2 hc1 hc2) (cY c2) (cls_ty c2 hc1 hc2) (cls_nm c2 hc1 hc2) hown hK hR wsH_D hS2 q hq (cls_at c2 hc1 hc2) (f - fb c2) hf2 (hts _ (wd_in hw)) (fun x q => q) (by simpa using hfin) (hin.trans hf3) hf4 (cls_ty c2 hc1 hc2 _ hf2) hty.1 hty.2 (by rw [flds_len]; exact hf2) hd kk
  · exact absurd hr.symm (Option.some_ne_none _)
end HO
