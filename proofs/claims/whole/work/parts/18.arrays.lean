/-! SOUNDNESS, 9: statics and arrays -/
section AR
variable {X : Cxt} {P : Par} {n0 u0 y d pc : Nat} {lk : List Nat} {z : Int} {ops : List Op} {ls : LV} {st : List AV} {h : Hp} {cl : Nat → List AV → Hp → Rs} {k : List Op → LV → List AV → Hp → Rs} {r : Option AV × Hp}
theorem sn_getstatic {n : Nat} (C : Cx X P y d n0) (hI : Iv (hq0 P) h) (hk : chkL y ((pc, .getstatic n, lk, z) :: ops) = true) (hr : stp cl k d y (.getstatic n) lk z ops ls st h = some r) (ih : ∀ o l s h2, k o l s h2 = some r → chkL y o = true → Iv (hq0 P) h2 → hN h ≤ hN h2 → hU h ≤ hU h2 → GoW X P n0 u0 y o l s h2) : GoW X P n0 u0 y ((pc, .getstatic n, lk, z) :: ops) ls st h := by
  obtain ⟨p, l, e, R, s, m, args, below, meth, c, Q⟩ := X
  obtain ⟨base, od, D, ca, L, xs, fm⟩ := P
  obtain ⟨hx, hb, hml, hown, hts, hin, hG0, hbs, hfr, hlo⟩ := C
  obtain ⟨hK, hAO, hNw, hX, hod, hT, hZ, hSt, hRt⟩ := id hG0
  obtain ⟨hd, hpc, hlk, hck⟩ := chk_next hk rfl
  unfold stp at hr
  dsimp only at hr
  split at hr
  · rename_i f t p2 q2
    intro H locs lsA hR hS2 hL
    have w := ih _ _ _ _ hr hck hI (Nat.le_refl _) (Nat.le_refl _) H locs lsA hR hS2 hL
    rw [hpc] at w
    simp only [lkc, Bool.and_eq_true, decide_eq_true_eq] at hlk
    obtain ⟨⟨⟨hf1, hf2⟩, hft⟩, hw⟩ := hlk
    have hz := hZ f hf1 hf2
    generalize stats.getD (f - 200) ("", "", "") = q3 at hz hw
    obtain ⟨C3, m3, d3⟩ := q3
    dsimp only at hz hw
    have ev : cv (al base od) (if t = 2 then .inr (.inr (hG h f 0)) else .inl (hF h f 0)) = stv base od fm f := by
      unfold stv
      rw [hft, (hI.2.1 0 (by omega)).2.2 f |>.1, (hI.2.1 0 (by omega)).2.2 f |>.2]
      by_cases ht : t = 2
      · rw [if_pos ht, if_pos ht]; rfl
      · rw [if_neg ht, if_neg ht]; rfl
    have w2 : W p l e R s m args below meth c H locs (hN h - n0) (hU h - u0) Q (F0 m (pc + 3) lsA (stv base od fm f :: st.map (cv (al base od)))) := by
      rw [← ev]; exact w
    by_cases hq : q2 = 0
    · rw [if_pos hq] at hw
      exact va_gets hx hb hz hS2 hown (hts _ (wd_in hw)) (fun x q => q) hd w2
    · rw [if_neg hq] at hw
      exact va_getsN hx hb hz hS2 hown (va_Nw.use rfl (hNw _ (wdN_in hw) rfl)) (fun x q => q) hd w2
  · exact absurd hr.symm (Option.some_ne_none _)
theorem sn_iaload  (C : Cx X P y d n0) (hI : Iv (hq0 P) h) (hk : chkL y ((pc, .iaload, lk, z) :: ops) = true) (hr : stp cl k d y (.iaload) lk z ops ls st h = some r) (ih : ∀ o l s h2, k o l s h2 = some r → chkL y o = true → Iv (hq0 P) h2 → hN h ≤ hN h2 → hU h ≤ hU h2 → GoW X P n0 u0 y o l s h2) : GoW X P n0 u0 y ((pc, .iaload, lk, z) :: ops) ls st h := by
  obtain ⟨p, l, e, R, s, m, args, below, meth, c, Q⟩ := X
  obtain ⟨base, od, D, ca, L, xs, fm⟩ := P
  obtain ⟨hx, hb, hml, hown, hts, hin, hG0, hbs, hfr, hlo⟩ := C
  obtain ⟨hK, hAO, hNw, hX, hod, hT, hZ, hSt, hRt⟩ := id hG0
  obtain ⟨hd, hpc, hlk, hck⟩ := chk_next hk rfl
  unfold stp at hr
  dsimp only at hr
  split at hr
  · rename_i i a _
    obtain ⟨⟨hki, hin2⟩, hr⟩ := gd_some hr
    intro H locs lsA hR hS2 hL
    have w := ih _ _ _ _ hr hck hI (Nat.le_refl _) (Nat.le_refl _) H locs lsA hR hS2 hL
    rw [hpc] at w
    simp only [ki, Bool.or_eq_true, beq_iff_eq] at hki
    rcases hki with hki | hki
    · obtain ⟨h1, h2⟩ := hI.new (Z0_hp0 L xs fm) (a := a) (by omega) (by omega) (by omega) (by omega)
      obtain ⟨q, hq⟩ := wsH_get (base := base) (g := al base od) (ca := ca) (h := h) h1 h2
      rw [cE_int hki (by omega) (by omega)] at hq
      refine W.eq (g2 := F0 m pc lsA (.int i :: .ref (base + (a - 64)) :: _)) (by show F0 m pc lsA (.int i :: .ref (al base od a) :: _) = _; rw [al_new h1]) ?_
      exact va_iald hx hb hK hR q 0 hq rfl (vp_of_inb hin2) hd w
    · have ha : a < 64 := hI.old (Or.inr (Or.inl hki))
      have hsa := (hI.2.1 a ha).1
      have hea := (hI.2.1 a ha).2.1
      have h4 : a ≤ 4 := s0S_200 (L := L) (by rw [← hki, hsa]; rfl)
      refine W.eq (g2 := F0 m pc lsA (.int i :: .ref (od a) :: _)) (by show F0 m pc lsA (.int i :: .ref (al base od a) :: _) = _; rw [al_old ha]) ?_
      rw [hea] at w
      rw [hsa] at hin2
      by_cases h0 : a = 0
      · subst h0
        exact va_sld hx hb hX (by have := hbs.2; simp only at this; omega) (Nat.not_le.mpr hod) hS2 (vp_of_inb hin2) hd w
      · exact va_ti hx hb (hT a (by omega) h4) hS2 (vp_of_inb hin2) rfl hd w
  · exact absurd hr.symm (Option.some_ne_none _)
theorem sn_baload  (C : Cx X P y d n0) (hI : Iv (hq0 P) h) (hk : chkL y ((pc, .baload, lk, z) :: ops) = true) (hr : stp cl k d y (.baload) lk z ops ls st h = some r) (ih : ∀ o l s h2, k o l s h2 = some r → chkL y o = true → Iv (hq0 P) h2 → hN h ≤ hN h2 → hU h ≤ hU h2 → GoW X P n0 u0 y o l s h2) : GoW X P n0 u0 y ((pc, .baload, lk, z) :: ops) ls st h := by
  obtain ⟨p, l, e, R, s, m, args, below, meth, c, Q⟩ := X
  obtain ⟨base, od, D, ca, L, xs, fm⟩ := P
  obtain ⟨hx, hb, hml, hown, hts, hin, hG0, hbs, hfr, hlo⟩ := C
  obtain ⟨hK, hAO, hNw, hX, hod, hT, hZ, hSt, hRt⟩ := id hG0
  obtain ⟨hd, hpc, hlk, hck⟩ := chk_next hk rfl
  unfold stp at hr
  dsimp only at hr
  split at hr
  · rename_i i a _
    obtain ⟨⟨hki, hin2⟩, hr⟩ := gd_some hr
    intro H locs lsA hR hS2 hL
    have w := ih _ _ _ _ hr hck hI (Nat.le_refl _) (Nat.le_refl _) H locs lsA hR hS2 hL
    rw [hpc] at w
    simp only [kb, Bool.or_eq_true, beq_iff_eq] at hki
    rcases hki with hki | hki
    · obtain ⟨h1, h2⟩ := hI.new (Z0_hp0 L xs fm) (a := a) (by omega) (by omega) (by omega) (by omega)
      obtain ⟨q, hq⟩ := wsH_get (base := base) (g := al base od) (ca := ca) (h := h) h1 h2
      rw [cE_int hki (by omega) (by omega)] at hq
      refine W.eq (g2 := F0 m pc lsA (.int i :: .ref (base + (a - 64)) :: _)) (by show F0 m pc lsA (.int i :: .ref (al base od a) :: _) = _; rw [al_new h1]) ?_
      exact va_zald hx hb hK hR q 1 hq rfl (vp_of_inb hin2) hd w
    · have ha : a < 64 := hI.old (Or.inr (Or.inr hki))
      have hsa := (hI.2.1 a ha).1
      have hea := (hI.2.1 a ha).2.1
      obtain ⟨h20, h29, hlen⟩ := s0S_202 (L := L) (a := a) (by rw [← hki, hsa]; rfl)
      obtain ⟨j, rfl⟩ : ∃ j, a = 20 + j := ⟨a - 20, by omega⟩
      refine W.eq (g2 := F0 m pc lsA (.int i :: .ref (od (20 + j)) :: _)) (by show F0 m pc lsA (.int i :: .ref (al base od (20 + j)) :: _) = _; rw [al_old ha]) ?_
      rw [hea] at w
      rw [hsa] at hin2
      have hin3 : inb i (strLen.getD j 0) := by
        have e20 : 20 + j - 20 = j := by omega
        rw [e20] at hlen
        rw [← hlen]; exact hin2
      refine va_tb hx hb (hSt.1 j (by omega)).2.2.2 hS2 (vp_of_inb hin3) rfl hd ?_
      refine W.eq ?_ w
      show F0 m (pc + 1) lsA _ = F0 m (pc + 1) lsA (.int (s0E xs (20 + j) i.toNatClampNeg) :: _)
      unfold s0E
      rw [if_neg (by omega), if_neg (by omega), if_pos ⟨by omega, by omega⟩, show 20 + j - 20 = j by omega]
  · exact absurd hr.symm (Option.some_ne_none _)
theorem sn_aaload  (C : Cx X P y d n0) (hI : Iv (hq0 P) h) (hk : chkL y ((pc, .aaload, lk, z) :: ops) = true) (hr : stp cl k d y (.aaload) lk z ops ls st h = some r) (ih : ∀ o l s h2, k o l s h2 = some r → chkL y o = true → Iv (hq0 P) h2 → hN h ≤ hN h2 → hU h ≤ hU h2 → GoW X P n0 u0 y o l s h2) : GoW X P n0 u0 y ((pc, .aaload, lk, z) :: ops) ls st h := by
  obtain ⟨p, l, e, R, s, m, args, below, meth, c, Q⟩ := X
  obtain ⟨base, od, D, ca, L, xs, fm⟩ := P
  obtain ⟨hx, hb, hml, hown, hts, hin, hG0, hbs, hfr, hlo⟩ := C
  obtain ⟨hK, hAO, hNw, hX, hod, hT, hZ, hSt, hRt⟩ := id hG0
  obtain ⟨hd, hpc, hlk, hck⟩ := chk_next hk rfl
  unfold stp at hr
  dsimp only at hr
  split at hr
  · rename_i i a _
    obtain ⟨⟨hki, hin2⟩, hr⟩ := gd_some hr
    intro H locs lsA hR hS2 hL
    have w := ih _ _ _ _ hr hck hI (Nat.le_refl _) (Nat.le_refl _) H locs lsA hR hS2 hL
    rw [hpc] at w
    obtain ⟨h1, h2, h3⟩ := kref_of (Z0_hp0 L xs fm) hI hki
    obtain ⟨q, hq⟩ := wsH_get (base := base) (g := al base od) (ca := ca) (h := h) h1 h2
    rw [cE_ref rfl (Nat.le_of_ble_eq_true hki)] at hq
    obtain ⟨t0, ht0⟩ := tys_ref (ca := ca) h3
    refine W.eq (g2 := F0 m pc lsA (.int i :: .ref (base + (a - 64)) :: _)) (by show F0 m pc lsA (.int i :: .ref (al base od a) :: _) = _; rw [al_new h1]) ?_
    exact va_aldq hx hb hK hR q t0 hq ht0 (vp_of_inb hin2) hd w
  · exact absurd hr.symm (Option.some_ne_none _)
theorem sn_iastore  (C : Cx X P y d n0) (hI : Iv (hq0 P) h) (hk : chkL y ((pc, .iastore, lk, z) :: ops) = true) (hr : stp cl k d y (.iastore) lk z ops ls st h = some r) (ih : ∀ o l s h2, k o l s h2 = some r → chkL y o = true → Iv (hq0 P) h2 → hN h ≤ hN h2 → hU h ≤ hU h2 → GoW X P n0 u0 y o l s h2) : GoW X P n0 u0 y ((pc, .iastore, lk, z) :: ops) ls st h := by
  obtain ⟨p, l, e, R, s, m, args, below, meth, c, Q⟩ := X
  obtain ⟨base, od, D, ca, L, xs, fm⟩ := P
  obtain ⟨hx, hb, hml, hown, hts, hin, hG0, hbs, hfr, hlo⟩ := C
  obtain ⟨hK, hAO, hNw, hX, hod, hT, hZ, hSt, hRt⟩ := id hG0
  obtain ⟨hd, hpc, hlk, hck⟩ := chk_next hk rfl
  unfold stp at hr
  dsimp only at hr
  split at hr
  · rename_i v i a _
    obtain ⟨⟨hki, hin2⟩, hr⟩ := gd_some hr
    intro H locs lsA hR hS2 hL
    obtain ⟨h1, h2⟩ := hI.new (Z0_hp0 L xs fm) (a := a) (by omega) (by omega) (by omega) (by omega)
    obtain ⟨q, hq⟩ := wsH_get (base := base) (g := al base od) (ca := ca) (h := h) h1 h2
    have hset : (wsH base (al base od) ca h).set q (base + (a - 64), .inl (ca 100, (hS h a).2, .inl (upd (hE h a) i.toNatClampNeg v))) = wsH base (al base od) ca (sE h a i.toNatClampNeg v) := by
      refine wsH_set (h' := sE h a i.toNatClampNeg v) h1 h2 hq rfl (fun b hb => cE_sE_ne hb) ?_
      rw [cE_int (h := sE h a i.toNatClampNeg v) (k := 100) hki (by omega) (by omega), upd_sE]; rfl
    rw [cE_int hki (by omega) (by omega)] at hq
    refine W.eq (g2 := F0 m pc lsA (.int v :: .int i :: .ref (base + (a - 64)) :: _)) (by show F0 m pc lsA (.int v :: .int i :: .ref (al base od a) :: _) = _; rw [al_new h1]) ?_
    refine va_iast hx hb hK hR wsH_D hS2 q 0 hq rfl (vp_of_inb hin2) hd (fun H1 locs1 hP1 hD1 hS1 => ?_)
    rw [hset] at hP1
    have w := ih _ _ _ _ hr hck (hI.sE h1) (Nat.le_refl _) (Nat.le_refl _) H1 locs1 lsA hP1 hS1 hL
    rw [hpc] at w
    exact w
  · exact absurd hr.symm (Option.some_ne_none _)
theorem sn_bastore  (C : Cx X P y d n0) (hI : Iv (hq0 P) h) (hk : chkL y ((pc, .bastore, lk, z) :: ops) = true) (hr : stp cl k d y (.bastore) lk z ops ls st h = some r) (ih : ∀ o l s h2, k o l s h2 = some r → chkL y o = true → Iv (hq0 P) h2 → hN h ≤ hN h2 → hU h ≤ hU h2 → GoW X P n0 u0 y o l s h2) : GoW X P n0 u0 y ((pc, .bastore, lk, z) :: ops) ls st h := by
  obtain ⟨p, l, e, R, s, m, args, below, meth, c, Q⟩ := X
  obtain ⟨base, od, D, ca, L, xs, fm⟩ := P
  obtain ⟨hx, hb, hml, hown, hts, hin, hG0, hbs, hfr, hlo⟩ := C
  obtain ⟨hK, hAO, hNw, hX, hod, hT, hZ, hSt, hRt⟩ := id hG0
  obtain ⟨hd, hpc, hlk, hck⟩ := chk_next hk rfl
  unfold stp at hr
  dsimp only at hr
  split at hr
  · rename_i v i a _
    obtain ⟨⟨hki, hin2, hv⟩, hr⟩ := gd_some hr
    intro H locs lsA hR hS2 hL
    obtain ⟨h1, h2⟩ := hI.new (Z0_hp0 L xs fm) (a := a) (by omega) (by omega) (by omega) (by omega)
    obtain ⟨q, hq⟩ := wsH_get (base := base) (g := al base od) (ca := ca) (h := h) h1 h2
    have hvn : vp_nar .boolean v = v := by rcases hv with rfl | rfl <;> rfl
    have hset : (wsH base (al base od) ca h).set q (base + (a - 64), .inl (ca 101, (hS h a).2, .inl (upd (hE h a) i.toNatClampNeg v))) = wsH base (al base od) ca (sE h a i.toNatClampNeg v) := by
      refine wsH_set (h' := sE h a i.toNatClampNeg v) h1 h2 hq rfl (fun b hb => cE_sE_ne hb) ?_
      rw [cE_int (h := sE h a i.toNatClampNeg v) (k := 101) hki (by omega) (by omega), upd_sE]; rfl
    rw [cE_int hki (by omega) (by omega)] at hq
    refine W.eq (g2 := F0 m pc lsA (.int v :: .int i :: .ref (base + (a - 64)) :: _)) (by show F0 m pc lsA (.int v :: .int i :: .ref (al base od a) :: _) = _; rw [al_new h1]) ?_
    refine va_zast hx hb hK hR wsH_D hS2 q 1 hq rfl (vp_of_inb hin2) hd (fun H1 locs1 hP1 hD1 hS1 => ?_)
    rw [hvn, hset] at hP1
    have w := ih _ _ _ _ hr hck (hI.sE h1) (Nat.le_refl _) (Nat.le_refl _) H1 locs1 lsA hP1 hS1 hL
    rw [hpc] at w
    exact w
  · exact absurd hr.symm (Option.some_ne_none _)
theorem sn_aastore  (C : Cx X P y d n0) (hI : Iv (hq0 P) h) (hk : chkL y ((pc, .aastore, lk, z) :: ops) = true) (hr : stp cl k d y (.aastore) lk z ops ls st h = some r) (ih : ∀ o l s h2, k o l s h2 = some r → chkL y o = true → Iv (hq0 P) h2 → hN h ≤ hN h2 → hU h ≤ hU h2 → GoW X P n0 u0 y o l s h2) : GoW X P n0 u0 y ((pc, .aastore, lk, z) :: ops) ls st h := by
  obtain ⟨p, l, e, R, s, m, args, below, meth, c, Q⟩ := X
  obtain ⟨base, od, D, ca, L, xs, fm⟩ := P
  obtain ⟨hx, hb, hml, hown, hts, hin, hG0, hbs, hfr, hlo⟩ := C
  obtain ⟨hK, hAO, hNw, hX, hod, hT, hZ, hSt, hRt⟩ := id hG0
  obtain ⟨hd, hpc, hlk, hck⟩ := chk_next hk rfl
  unfold stp at hr
  dsimp only at hr
  split at hr
  · rename_i b i a _
    obtain ⟨⟨hki, hb2, hin2⟩, hr⟩ := gd_some hr
    intro H locs lsA hR hS2 hL
    obtain ⟨h1, h2, h3⟩ := kref_of (Z0_hp0 L xs fm) hI hki
    have hk1 : 1 ≤ (hS h a).1 - 300 ∧ (hS h a).1 - 300 ≤ 12 := by
      simp only [List.mem_cons, List.not_mem_nil, or_false] at h3
      omega
    obtain ⟨g1, g2⟩ := hI.new (Z0_hp0 L xs fm) (a := b) (by rw [hb2]; simp only; omega) (by rw [hb2]; simp only; simp only [List.mem_cons, List.not_mem_nil, or_false] at h3; omega) (by rw [hb2]; simp only; omega) (by rw [hb2]; simp only; omega)
    obtain ⟨q, hq⟩ := wsH_get (base := base) (g := al base od) (ca := ca) (h := h) h1 h2
    obtain ⟨qb, hqb⟩ := wsH_get (base := base) (g := al base od) (ca := ca) (h := h) g1 g2
    obtain ⟨t0, ht0⟩ := tys_ref (ca := ca) h3
    generalize (hS h a).1 - 300 = kk at hb2 hk1 ht0
    have hset : (wsH base (al base od) ca h).set q (base + (a - 64), .inl (ca (hS h a).1, (hS h a).2, .inr (.inr (.inr (.inr (va_up (fun i => (hQ h a i).map (al base od)) i.toNatClampNeg (some (al base od b)))))))) = wsH base (al base od) ca (sQ h a i.toNatClampNeg (some b)) := by
      refine wsH_set (h' := sQ h a i.toNatClampNeg (some b)) h1 h2 hq rfl (fun b hb => cE_sQ_ne hb) ?_
      rw [cE_ref (h := sQ h a i.toNatClampNeg (some b)) rfl (Nat.le_of_ble_eq_true hki)]
      rw [← up_sQ (g := al base od)]; rfl
    rw [cE_ref rfl (Nat.le_of_ble_eq_true hki)] at hq
    rw [cE_obj hb2 hk1.2] at hqb
    rw [al_new g1] at hset
    refine W.eq (g2 := F0 m pc lsA (.ref (base + (b - 64)) :: .int i :: .ref (base + (a - 64)) :: _)) (by show F0 m pc lsA (.ref (al base od b) :: .int i :: .ref (al base od a) :: _) = _; rw [al_new h1, al_new g1]) ?_
    refine va_astq (r := (cnm kk, cT kk, cN kk)) hx hb hK hR wsH_D hS2 q t0 qb (kk - 1) hq ht0 hqb (cls_at _ hk1.1 hk1.2) (vp_of_inb hin2) hd (fun H1 locs1 hP1 hD1 hS1 => ?_)
    rw [hset] at hP1
    have w := ih _ _ _ _ hr hck hI.sQ (Nat.le_refl _) (Nat.le_refl _) H1 locs1 lsA hP1 hS1 hL
    rw [hpc] at w
    exact w
  · exact absurd hr.symm (Option.some_ne_none _)
theorem sn_alen  (C : Cx X P y d n0) (hI : Iv (hq0 P) h) (hk : chkL y ((pc, .arraylength, lk, z) :: ops) = true) (hr : stp cl k d y (.arraylength) lk z ops ls st h = some r) (ih : ∀ o l s h2, k o l s h2 = some r → chkL y o = true → Iv (hq0 P) h2 → hN h ≤ hN h2 → hU h ≤ hU h2 → GoW X P n0 u0 y o l s h2) : GoW X P n0 u0 y ((pc, .arraylength, lk, z) :: ops) ls st h := by
  obtain ⟨p, l, e, R, s, m, args, below, meth, c, Q⟩ := X
  obtain ⟨base, od, D, ca, L, xs, fm⟩ := P
  obtain ⟨hx, hb, hml, hown, hts, hin, hG0, hbs, hfr, hlo⟩ := C
  obtain ⟨hK, hAO, hNw, hX, hod, hT, hZ, hSt, hRt⟩ := id hG0
  obtain ⟨hd, hpc, hlk, hck⟩ := chk_next hk rfl
  unfold stp at hr
  dsimp only at hr
  split at hr
  · rename_i a _
    obtain ⟨hka, hr⟩ := gd_some hr
    have hka : 100 ≤ (hS h a).1 := Nat.le_of_ble_eq_true hka
    intro H locs lsA hR hS2 hL
    have w := ih _ _ _ _ hr hck hI (Nat.le_refl _) (Nat.le_refl _) H locs lsA hR hS2 hL
    rw [hpc] at w
    rcases Nat.lt_or_ge a 64 with ha | ha
    · have hsa := (hI.2.1 a ha).1
      have hz := Z0_hp0 L xs fm a ha
      rw [show hS (hp0 L xs fm) a = hS h a from hsa.symm] at hz
      refine W.eq (g2 := F0 m pc lsA (.ref (od a) :: _)) (by show F0 m pc lsA (.ref (al base od a) :: _) = _; rw [al_old ha]) ?_
      rw [hsa] at w
      rcases hz with hz | hz | hz | hz
      · omega
      · omega
      · have h4 : a ≤ 4 := s0S_200 (L := L) (by rw [← hz, hsa]; rfl)
        by_cases h0 : a = 0
        · subst h0
          exact va_slen hx hb hX (by have := hbs.2; simp only at this; omega) (Nat.not_le.mpr hod) hS2 hd w
        · exact va_tlen hx hb (hT a (by omega) h4) hS2 rfl hd w
      · obtain ⟨h20, h29, hlen⟩ := s0S_202 (L := L) (a := a) (by rw [← hz, hsa]; rfl)
        obtain ⟨j, rfl⟩ : ∃ j, a = 20 + j := ⟨a - 20, by omega⟩
        refine va_tlen hx hb (hSt.1 j (by omega)).2.2.2 hS2 rfl hd ?_
        refine W.eq ?_ w
        show F0 m (pc + 1) lsA _ = F0 m (pc + 1) lsA (.int (Int32.ofNat (s0S L (20 + j)).2) :: _)
        rw [hlen, show 20 + j - 20 = j by omega]
    · have hlt : a < hN h := by
        rcases Nat.lt_or_ge a (hN h) with q | q
        · exact q
        · rw [hI.2.2.1 a q] at hka; simp at hka
      obtain ⟨q, hq⟩ := wsH_get (base := base) (g := al base od) (ca := ca) (h := h) ha hlt
      refine W.eq (g2 := F0 m pc lsA (.ref (base + (a - 64)) :: _)) (by show F0 m pc lsA (.ref (al base od a) :: _) = _; rw [al_new ha]) ?_
      rcases hI.2.2.2 a ha hlt with g | g | g | g
      · omega
      · rw [cE_int g (by omega) (by omega)] at hq
        exact va_alen hx hb hK hR q 0 hq rfl rfl hd w
      · rw [cE_int g (by omega) (by omega)] at hq
        exact va_alen hx hb hK hR q 1 hq rfl rfl hd w
      · obtain ⟨t0, ht0⟩ := tys_ref (ca := ca) g
        have g3 : 300 ≤ (hS h a).1 := by
          simp only [List.mem_cons, List.not_mem_nil, or_false] at g
          omega
        rw [cE_ref rfl g3] at hq
        exact va_alen hx hb hK hR q t0 hq ht0 rfl hd w
  · exact absurd hr.symm (Option.some_ne_none _)
end AR
