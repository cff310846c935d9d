/-! SOUNDNESS, 10: new cells, constants, switches -/
def Rm (X : Cxt) (n0 u0 : Nat) (h : Hp) : Prop := match X with
  | (_, _, _, R, _, _, _, _, _, _, _) => hN h - n0 ≤ R.cells ∧ hU h - u0 ≤ R.slots
theorem size_of {p : Program} {l : Launch} {e : Env} {R : Room} {s : State} {m : MethodId} {args : Array Value} {below : List Frame} {meth : Method} {c : Code} {T : State} {H : Heap} {locs : List Loc} {P : Par} {h : Hp} {n0 sl : Nat} (X : Stand p l e R s m args below meth c T locs (hN h - n0) sl) (hT : T.heap = H) (hR : Rp P h H) (hn : n0 ≤ hN h) (hs : 64 ≤ n0 ∧ s.heap.size = P.1 + (n0 - 64)) (hS : va_S (fun q => P.1 ≤ q) s.heap H locs) : H.size = P.1 + (hN h - 64) := by
  obtain ⟨base, od, D, ca, L, xs, fm⟩ := P
  have h1 := X.heapSize
  rw [hT] at h1
  have h2 : s.heap.size = base + (n0 - 64) := hs.2
  have h3 := hs.1
  have h4 := hS.1
  show H.size = base + (hN h - 64)
  by_cases e : hN h = 64
  · omega
  · obtain ⟨q, hq⟩ := wsH_get (base := base) (g := al base od) (ca := ca) (h := h) (a := hN h - 1) (by omega) (by omega)
    have h5 := (hR q _ hq).lt
    simp only at h5
    omega
theorem W_size {p : Program} {l : Launch} {e : Env} {R : Room} {s : State} {m : MethodId} {args : Array Value} {below : List Frame} {meth : Method} {c : Code} {H : Heap} {locs : List Loc} {Q : State → Prop} {g : JFrame} {P : Par} {h : Hp} {n0 sl : Nat} (hR : Rp P h H) (hn : n0 ≤ hN h) (hs : 64 ≤ n0 ∧ s.heap.size = P.1 + (n0 - 64)) (hS : va_S (fun q => P.1 ≤ q) s.heap H locs) (k : H.size = P.1 + (hN h - 64) → W p l e R s m args below meth c H locs (hN h - n0) sl Q g) : W p l e R s m args below meth c H locs (hN h - n0) sl Q g := fun T hT X => k (size_of X hT hR hn hs hS) T hT X
theorem cE_nw_lt {g : Nat → Nat} {ca : Nat → ClassId} {h : Hp} {k n j b : Nat} (hb : b < hN h) : cE g ca (nw h k n j) b = cE g ca h b := by
  have hb' : b ≠ hN h := by omega
  have e1 : hE (nw h k n j) b = hE h b := by funext i; rw [hE_nw, if_neg hb']
  have e2 : hQ (nw h k n j) b = hQ h b := by funext i; rw [hQ_nw, if_neg hb']
  unfold cE flds fldv
  rw [e1, e2]
  simp only [hS_nw, hG_nw, hF_nw, hb', if_false]
theorem not_neg {v : Int32} (h : 0 ≤ v.toInt) : ¬ v < 0 := by
  intro q
  have := Int32.lt_iff_toInt_lt.mp q
  simp at this
  omega
theorem ac_int : Cond.arrayClass (newarray.typeOf .int) ∈ gw := wd_in (p := 184) (by decide +kernel)
theorem ac_bool : Cond.arrayClass (newarray.typeOf .boolean) ∈ gw := wd_in (p := 183) (by decide +kernel)
def strOk : Cond → Bool
  | .stringRef own n tx => decide (own = "WaterCruise$LineReader") && (List.range 9).all (fun j => decide (¬ strT.getD j "" = tx) || decide (strIx.getD j 0 = n))
  | _ => true
theorem str_all : lw_tbl.all strOk = true := by decide +kernel
theorem str_at {j n : Nat} {own : String} (hj : j < 9) (h : Cond.stringRef own n (strT.getD (10 + j - 10) "") ∈ lw_tbl) : own = "WaterCruise$LineReader" ∧ n = strIx.getD j 0 := by
  have := List.all_eq_true.mp str_all _ h
  rw [show 10 + j - 10 = j by omega] at this
  simp only [strOk, Bool.and_eq_true, decide_eq_true_eq] at this
  have h2 := List.all_eq_true.mp this.2 j (List.mem_range.mpr hj)
  simp only [Bool.or_eq_true, decide_eq_true_eq, not_true_eq_false, false_or] at h2
  exact ⟨this.1, h2.symm⟩
section NW
variable {X : Cxt} {P : Par} {n0 u0 y d pc : Nat} {lk : List Nat} {z : Int} {ops : List Op} {ls : LV} {st : List AV} {h : Hp} {cl : Nat → List AV → Hp → Rs} {k : List Op → LV → List AV → Hp → Rs} {r : Option AV × Hp}
theorem sn_new {n : Nat} (C : Cx X P y d n0) (hI : Iv (hq0 P) h) (hmon : ∀ o l s h2, k o l s h2 = some r → chkL y o = true → Iv (hq0 P) h2 → hN h2 ≤ hN r.2 ∧ hU h2 ≤ hU r.2) (hrm : Rm X n0 u0 r.2) (hn0 : n0 ≤ hN h) (hu0 : u0 ≤ hU h) (hk : chkL y ((pc, .new n, lk, z) :: ops) = true) (hr : stp cl k d y (.new n) lk z ops ls st h = some r) (ih : ∀ o l s h2, k o l s h2 = some r → chkL y o = true → Iv (hq0 P) h2 → hN h ≤ hN h2 → hU h ≤ hU h2 → GoW X P n0 u0 y o l s h2) : GoW X P n0 u0 y ((pc, .new n, lk, z) :: ops) ls st h := by
  obtain ⟨p, l, e, R, s, m, args, below, meth, c, Q⟩ := X
  obtain ⟨base, od, D, ca, L, xs, fm⟩ := P
  obtain ⟨hx, hb, hml, hown, hts, hin, hG0, hbs, hfr, hlo⟩ := C
  obtain ⟨hK, hAO, hNw, hX, hod, hT, hZ, hSt, hRt⟩ := id hG0
  obtain ⟨hd, hpc, hlk, hck⟩ := chk_next hk rfl
  unfold stp at hr
  dsimp only at hr
  split at hr
  · rename_i c2 j p2
    simp only [lkc, Bool.and_eq_true, decide_eq_true_eq] at hlk
    obtain ⟨⟨⟨hc1, hc2⟩, hj⟩, hw⟩ := hlk
    obtain ⟨hm1, hm2⟩ := hmon _ _ _ _ hr hck (hI.nw (Or.inl ⟨hc1, hc2, rfl⟩))
    rw [hN_nw] at hm1
    rw [hU_nw] at hm2
    have hrm1 : hN r.2 - n0 ≤ R.cells := hrm.1
    have hrm2 : hU r.2 - u0 ≤ R.slots := hrm.2
    intro H locs lsA hR hS2 hL
    refine W_size (P := (base, od, D, ca, L, xs, fm)) hR hn0 hbs hS2 (fun hz => ?_)
    have hz : H.size = base + (hN h - 64) := hz
    have hKn := hK.1 (c2 - 1) _ (cls_at c2 hc1 hc2)
    obtain ⟨hi1, hi2⟩ := cls_ii c2 hc1 hc2
    subst hj
    refine W.newcK hx hb hown (hts _ (wd_in hw)) (hts _ hi1) (hts _ hi2) rfl hd (by omega) (by omega) hKn.2.1 hz (fun H1 kC hkC e1 z1 o1 => ?_)
    have hs2 : hS (nw h c2 0 (cN c2)) (hN h) = (c2, 0) := by rw [hS_nw, if_pos rfl]
    have hP1 : Rp (base, od, D, ca, L, xs, fm) (nw h c2 0 (cN c2)) H1 := by
      show va_P D clsL (wsH base (al base od) ca (nw h c2 0 (cN c2))) H1
      rw [← wsH_push hI.1 (hN_nw h c2 0 (cN c2)) (fun b hb => cE_nw_lt hb)]
      refine (va_P.kept hR (fun q x hx => o1 x.1 (by rw [← hz]; exact (hR q x hx).lt))).app (fun q x hx => ?_)
      have hz0 : q < 1 := (List.getElem?_eq_some_iff.mp hx).1
      rw [show q = 0 by omega] at hx
      cases hx
      show va_at D clsL (base + (hN h - 64), cE (al base od) ca (nw h c2 0 (cN c2)) (hN h)) H1
      rw [cE_obj hs2 hc2]
      refine ⟨_, cls_at c2 hc1 hc2, (u_born (cY c2) hts (cls_in c2 hc1 hc2) hKn hkC e1 (cls_ty c2 hc1 hc2)).to (fun j hj => ?_)⟩
      obtain ⟨g1, g2⟩ := cls_ft c2 hc1 hc2 j hj
      unfold vp_V
      rw [List.getD_eq_getElem?_getD, flds_get hj]
      show _ = fldv _ _ _ _
      unfold fldv
      rw [hG_nw, if_pos rfl, hF_nw, if_pos rfl, g1]
      rw [g1] at g2
      generalize cY c2 j = ty at g2
      cases ty <;> simp only [rtc] at g2 <;> first | rfl | (exact absurd g2 (by decide))
    have hS1 : va_S (fun q => base ≤ q) s.heap H1 locs := ⟨Nat.le_trans hS2.1 (by omega), fun x h1 h2 => (o1 x (by have := hS2.1; omega)).trans (hS2.2.1 x h1 h2), hS2.2.2⟩
    have w := ih _ _ _ _ hr hck (hI.nw (Or.inl ⟨hc1, hc2, rfl⟩)) (Nat.le_succ _) (Nat.le_add_right _ _) H1 locs lsA hP1 hS1 hL
    rw [hpc, hN_nw, hU_nw, show hN h + 1 - n0 = hN h - n0 + 1 by omega, show hU h + cN c2 - u0 = hU h - u0 + cN c2 by omega] at w
    refine W.eq ?_ w
    show F0 m (pc + 3) lsA _ = F0 m (pc + 3) lsA (.ref (al base od (hN h)) :: _)
    rw [al_new hI.1]
  · exact absurd hr.symm (Option.some_ne_none _)
theorem rp_arr {base : Nat} {od : Nat → Nat} {D : va_G} {ca : Nat → ClassId} {L : Nat} {xs : Nat → Int32} {fm : Option Nat} {H H1 : Heap} {kd N : Nat} {ty : FieldType} (hI : 64 ≤ hN h) (hR : Rp (base, od, D, ca, L, xs, fm) h H) (hz : H.size = base + (hN h - 64)) (hk : 100 ≤ kd) (hd : if kd < 300 then defaultValue ty = .int 0 else defaultValue ty = .null) (e1 : H1[base + (hN h - 64)]? = some (arrV (ca kd) N (fun _ => defaultValue ty))) (o1 : ∀ q, q < base + (hN h - 64) → H1[q]? = H[q]?) : Rp (base, od, D, ca, L, xs, fm) (nw h kd N N) H1 := by
  show va_P D clsL (wsH base (al base od) ca (nw h kd N N)) H1
  rw [← wsH_push hI (hN_nw h kd N N) (fun b hb => cE_nw_lt hb)]
  refine (va_P.kept hR (fun q x hx => o1 x.1 (by rw [← hz]; exact (hR q x hx).lt))).app (fun q x hx => ?_)
  have hz0 : q < 1 := (List.getElem?_eq_some_iff.mp hx).1
  rw [show q = 0 by omega] at hx
  cases hx
  show va_at D clsL (base + (hN h - 64), cE (al base od) ca (nw h kd N N) (hN h)) H1
  have hs : hS (nw h kd N N) (hN h) = (kd, N) := by rw [hS_nw, if_pos rfl]
  have hs1 : (hS (nw h kd N N) (hN h)).1 = kd := by rw [hs]
  by_cases h3 : kd < 300
  · rw [cE_int hs1 hk h3, hs]
    show H1[_]? = some (vp_cell _ _)
    rw [e1, vp_cell_i]
    rw [if_pos h3] at hd
    rw [hd]
    congr 2
    funext j
    rw [hE_nw, if_pos rfl]
  · rw [cE_ref hs1 (by omega), hs]
    show H1[_]? = some (vp_cell _ _)
    rw [e1, vp_cell_q]
    rw [if_neg h3] at hd
    rw [hd]
    congr 2
    funext j
    rw [hQ_nw, if_pos rfl]
    rfl
theorem sn_newarray {t : ArrayType} (C : Cx X P y d n0) (hI : Iv (hq0 P) h) (hmon : ∀ o l s h2, k o l s h2 = some r → chkL y o = true → Iv (hq0 P) h2 → hN h2 ≤ hN r.2 ∧ hU h2 ≤ hU r.2) (hrm : Rm X n0 u0 r.2) (hn0 : n0 ≤ hN h) (hu0 : u0 ≤ hU h) (hk : chkL y ((pc, .newarray t, lk, z) :: ops) = true) (hr : stp cl k d y (.newarray t) lk z ops ls st h = some r) (ih : ∀ o l s h2, k o l s h2 = some r → chkL y o = true → Iv (hq0 P) h2 → hN h ≤ hN h2 → hU h ≤ hU h2 → GoW X P n0 u0 y o l s h2) : GoW X P n0 u0 y ((pc, .newarray t, lk, z) :: ops) ls st h := by
  obtain ⟨p, l, e, R, s, m, args, below, meth, c, Q⟩ := X
  obtain ⟨base, od, D, ca, L, xs, fm⟩ := P
  obtain ⟨hx, hb, hml, hown, hts, hin, hG0, hbs, hfr, hlo⟩ := C
  obtain ⟨hK, hAO, hNw, hX, hod, hT, hZ, hSt, hRt⟩ := id hG0
  obtain ⟨hd, hpc, hlk, hck⟩ := chk_next hk rfl
  unfold stp at hr
  dsimp only at hr
  split at hr
  · rename_i kd v st2
    obtain ⟨⟨hv0, hv1⟩, hr⟩ := gd_some hr
    simp only [lkc, Bool.or_eq_true, Bool.and_eq_true, decide_eq_true_eq] at hlk
    obtain ⟨hm1, hm2⟩ := hmon _ _ _ _ hr hck (hI.nw (by rcases hlk with q | q; exact Or.inr (Or.inl q.2); exact Or.inr (Or.inr (Or.inl q.2))))
    rw [hN_nw] at hm1
    rw [hU_nw] at hm2
    have hrm1 : hN r.2 - n0 ≤ R.cells := hrm.1
    have hrm2 : hU r.2 - u0 ≤ R.slots := hrm.2
    have hvN : v.toNatClampNeg = v.toInt.toNat := rfl
    intro H locs lsA hR hS2 hL
    refine W_size (P := (base, od, D, ca, L, xs, fm)) hR hn0 hbs hS2 (fun hz => ?_)
    have hz : H.size = base + (hN h - 64) := hz
    have fin : ∀ (H1 : Heap) (ty : FieldType), (if kd < 300 then defaultValue ty = .int 0 else defaultValue ty = .null) → 100 ≤ kd → okS (kd, v.toNatClampNeg) → H1[base + (hN h - 64)]? = some (arrV (ca kd) v.toNatClampNeg (fun _ => defaultValue ty)) → H1.size = base + (hN h - 64) + 1 → (∀ q, q < base + (hN h - 64) → H1[q]? = H[q]?) → W p l e R s m args below meth c H1 locs (hN h - n0 + 1) (hU h - u0 + v.toNatClampNeg) Q (F0 m (pc + 2) lsA (.ref (base + (hN h - 64)) :: st2.map (cv (al base od)))) := by
      intro H1 ty hdv hkd hok e1 z1 o1
      have hS1 : va_S (fun q => base ≤ q) s.heap H1 locs := ⟨Nat.le_trans hS2.1 (by omega), fun x h1 h2 => (o1 x (by have := hS2.1; omega)).trans (hS2.2.1 x h1 h2), hS2.2.2⟩
      have w := ih _ _ _ _ hr hck (hI.nw hok) (Nat.le_succ _) (Nat.le_add_right _ _) H1 locs lsA (rp_arr hI.1 hR hz hkd hdv e1 o1) hS1 hL
      rw [hpc, hN_nw, hU_nw, show hN h + 1 - n0 = hN h - n0 + 1 by omega, show hU h + v.toNatClampNeg - u0 = hU h - u0 + v.toNatClampNeg by omega] at w
      refine W.eq ?_ w
      show F0 m (pc + 2) lsA _ = F0 m (pc + 2) lsA (.ref (al base od (hN h)) :: _)
      rw [al_new hI.1]
    rcases hlk with ⟨rfl, rfl⟩ | ⟨rfl, rfl⟩
    · refine va_newaK (atype := .int) hx hb (hts _ ac_int) rfl hd rfl (not_neg hv0) rfl (by show _ * 4 ≤ _; omega) (by omega) (by omega) hz (fun H1 cA e1 z1 o1 hA1 hA2 => ?_)
      have hca : cA = ca 100 := Option.some.inj (hA2.symm.trans (hK.2 0 _ rfl).2)
      subst hca
      exact fin H1 .int rfl (by decide) (Or.inr (Or.inl rfl)) e1 z1 o1
    · refine va_newaK (atype := .boolean) hx hb (hts _ ac_bool) rfl hd rfl (not_neg hv0) rfl (by show _ * 1 ≤ _; omega) (by omega) (by omega) hz (fun H1 cA e1 z1 o1 hA1 hA2 => ?_)
      have hca : cA = ca 101 := Option.some.inj (hA2.symm.trans (hK.2 1 _ rfl).2)
      subst hca
      exact fin H1 .boolean rfl (by decide) (Or.inr (Or.inr (Or.inl rfl))) e1 z1 o1
  · exact absurd hr.symm (Option.some_ne_none _)
theorem sn_anewarray {n : Nat} (C : Cx X P y d n0) (hI : Iv (hq0 P) h) (hmon : ∀ o l s h2, k o l s h2 = some r → chkL y o = true → Iv (hq0 P) h2 → hN h2 ≤ hN r.2 ∧ hU h2 ≤ hU r.2) (hrm : Rm X n0 u0 r.2) (hn0 : n0 ≤ hN h) (hu0 : u0 ≤ hU h) (hk : chkL y ((pc, .anewarray n, lk, z) :: ops) = true) (hr : stp cl k d y (.anewarray n) lk z ops ls st h = some r) (ih : ∀ o l s h2, k o l s h2 = some r → chkL y o = true → Iv (hq0 P) h2 → hN h ≤ hN h2 → hU h ≤ hU h2 → GoW X P n0 u0 y o l s h2) : GoW X P n0 u0 y ((pc, .anewarray n, lk, z) :: ops) ls st h := by
  obtain ⟨p, l, e, R, s, m, args, below, meth, c, Q⟩ := X
  obtain ⟨base, od, D, ca, L, xs, fm⟩ := P
  obtain ⟨hx, hb, hml, hown, hts, hin, hG0, hbs, hfr, hlo⟩ := C
  obtain ⟨hK, hAO, hNw, hX, hod, hT, hZ, hSt, hRt⟩ := id hG0
  obtain ⟨hd, hpc, hlk, hck⟩ := chk_next hk rfl
  unfold stp at hr
  dsimp only at hr
  split at hr
  · rename_i kd p2 v st2
    obtain ⟨⟨hv0, hv1⟩, hr⟩ := gd_some hr
    simp only [lkc, Bool.and_eq_true, decide_eq_true_eq] at hlk
    obtain ⟨hkd, hw⟩ := hlk
    obtain ⟨hm1, hm2⟩ := hmon _ _ _ _ hr hck (hI.nw (Or.inr (Or.inr (Or.inr hkd))))
    rw [hN_nw] at hm1
    rw [hU_nw] at hm2
    have hrm1 : hN r.2 - n0 ≤ R.cells := hrm.1
    have hrm2 : hU r.2 - u0 ≤ R.slots := hrm.2
    have hvN : v.toNatClampNeg = v.toInt.toNat := rfl
    obtain ⟨t0, ht0⟩ := tys_ref (ca := ca) hkd
    have hk3 : 300 ≤ kd := by
      simp only [List.mem_cons, List.not_mem_nil, or_false] at hkd
      omega
    intro H locs lsA hR hS2 hL
    refine W_size (P := (base, od, D, ca, L, xs, fm)) hR hn0 hbs hS2 (fun hz => ?_)
    have hz : H.size = base + (hN h - 64) := hz
    refine W.anew hx hb hown (hts _ (wd_in hw)) (va_AO.use (hAO kd hkd)) rfl hd rfl (not_neg hv0) (by omega) (by omega) (by omega) (fun cA kA comp f1 f2 f3 f4 => ?_)
    obtain ⟨kA2, comp2, g1, g2, g3, g4⟩ := (hK.2 t0 _ ht0).2
    have hca : cA = ca kd := Option.some.inj (f1.symm.trans g4)
    subst hca
    generalize hH1 : H.push ({ cls := ca kd, slots := Array.replicate v.toNatClampNeg .null, vm := .none } : Cell) = H1
    have z1 : H1.size = H.size + 1 := by rw [← hH1, Array.size_push]
    have e1 : H1[base + (hN h - 64)]? = some (arrV (ca kd) v.toNatClampNeg (fun _ => .null)) := by rw [← hz, ← hH1, Array.getElem?_push_size, ← arrV_new]
    have o1 : ∀ q, q < base + (hN h - 64) → H1[q]? = H[q]? := by
      intro q hq
      rw [← hH1, Array.getElem?_push, if_neg (by omega)]
    have hS1 : va_S (fun q => base ≤ q) s.heap H1 locs := ⟨Nat.le_trans hS2.1 (by omega), fun x h1 h2 => (o1 x (by have := hS2.1; omega)).trans (hS2.2.1 x h1 h2), hS2.2.2⟩
    have w := ih _ _ _ _ hr hck (hI.nw (Or.inr (Or.inr (Or.inr hkd)))) (Nat.le_succ _) (Nat.le_add_right _ _) H1 locs lsA (rp_arr (ty := .object "") hI.1 hR hz (by omega) (by rw [if_neg (by omega)]; rfl) e1 o1) hS1 hL
    rw [hpc, hN_nw, hU_nw, show hN h + 1 - n0 = hN h - n0 + 1 by omega, show hU h + v.toNatClampNeg - u0 = hU h - u0 + v.toNatClampNeg by omega] at w
    refine W.eq ?_ w
    show F0 m (pc + 3) lsA (.ref H.size :: _) = F0 m (pc + 3) lsA (.ref (al base od (hN h)) :: _)
    rw [al_new hI.1, hz]
  · exact absurd hr.symm (Option.some_ne_none _)
theorem sn_ldc {n : Nat} (C : Cx X P y d n0) (hI : Iv (hq0 P) h) (hk : chkL y ((pc, .ldc n, lk, z) :: ops) = true) (hr : stp cl k d y (.ldc n) lk z ops ls st h = some r) (ih : ∀ o l s h2, k o l s h2 = some r → chkL y o = true → Iv (hq0 P) h2 → hN h ≤ hN h2 → hU h ≤ hU h2 → GoW X P n0 u0 y o l s h2) : GoW X P n0 u0 y ((pc, .ldc n, lk, z) :: ops) ls st h := by
  obtain ⟨p, l, e, R, s, m, args, below, meth, c, Q⟩ := X
  obtain ⟨base, od, D, ca, L, xs, fm⟩ := P
  obtain ⟨hx, hb, hml, hown, hts, hin, hG0, hbs, hfr, hlo⟩ := C
  obtain ⟨hK, hAO, hNw, hX, hod, hT, hZ, hSt, hRt⟩ := id hG0
  obtain ⟨hd, hpc, hlk, hck⟩ := chk_next hk rfl
  unfold stp at hr
  dsimp only at hr
  split at hr
  · rename_i p2
    simp only [lkc] at hlk
    intro H locs lsA hR hS2 hL
    have w := ih _ _ _ _ hr hck hI (Nat.le_refl _) (Nat.le_refl _) H locs lsA hR hS2 hL
    rw [hpc] at w
    exact lv_ldc hx hb hown (hts _ (wd_in hlk)) hd w
  · rename_i a p2
    simp only [lkc, Bool.and_eq_true, decide_eq_true_eq] at hlk
    obtain ⟨⟨hw, h10⟩, h19⟩ := hlk
    obtain ⟨j, rfl⟩ : ∃ j, a = 10 + j := ⟨a - 10, by omega⟩
    intro H locs lsA hR hS2 hL
    have w := ih _ _ _ _ hr hck hI (Nat.le_refl _) (Nat.le_refl _) H locs lsA hR hS2 hL
    rw [hpc] at w
    obtain ⟨hn1, hn2⟩ := str_at (j := j) (by omega) (wdN_in hw)
    have hrt := hRt j (by omega)
    rw [← hn1, ← hn2] at hrt
    refine va_ldcS hx hb hown hrt hd ?_
    refine W.eq ?_ w
    show F0 m (pc + 2) lsA _ = F0 m (pc + 2) lsA (.ref (al base od (10 + j)) :: _)
    rw [al_old (show 10 + j < 64 by omega)]
  · exact absurd hr.symm (Option.some_ne_none _)
theorem sn_ldcw {n : Nat} (C : Cx X P y d n0) (hI : Iv (hq0 P) h) (hk : chkL y ((pc, .ldc_w n, lk, z) :: ops) = true) (hr : stp cl k d y (.ldc_w n) lk z ops ls st h = some r) (ih : ∀ o l s h2, k o l s h2 = some r → chkL y o = true → Iv (hq0 P) h2 → hN h ≤ hN h2 → hU h ≤ hU h2 → GoW X P n0 u0 y o l s h2) : GoW X P n0 u0 y ((pc, .ldc_w n, lk, z) :: ops) ls st h := by
  obtain ⟨p, l, e, R, s, m, args, below, meth, c, Q⟩ := X
  obtain ⟨base, od, D, ca, L, xs, fm⟩ := P
  obtain ⟨hx, hb, hml, hown, hts, hin, hG0, hbs, hfr, hlo⟩ := C
  obtain ⟨hK, hAO, hNw, hX, hod, hT, hZ, hSt, hRt⟩ := id hG0
  obtain ⟨hd, hpc, hlk, hck⟩ := chk_next hk rfl
  unfold stp at hr
  dsimp only at hr
  split at hr
  · simp only [lkc] at hlk
    intro H locs lsA hR hS2 hL
    have w := ih _ _ _ _ hr hck hI (Nat.le_refl _) (Nat.le_refl _) H locs lsA hR hS2 hL
    rw [hpc] at w
    exact lv_ldcw hx hb hown (hts _ (wd_in hlk)) hd w
  · exact absurd hr.symm (Option.some_ne_none _)
theorem sn_ldc2 {n : Nat} (C : Cx X P y d n0) (hI : Iv (hq0 P) h) (hk : chkL y ((pc, .ldc2_w n, lk, z) :: ops) = true) (hr : stp cl k d y (.ldc2_w n) lk z ops ls st h = some r) (ih : ∀ o l s h2, k o l s h2 = some r → chkL y o = true → Iv (hq0 P) h2 → hN h ≤ hN h2 → hU h ≤ hU h2 → GoW X P n0 u0 y o l s h2) : GoW X P n0 u0 y ((pc, .ldc2_w n, lk, z) :: ops) ls st h := by
  obtain ⟨p, l, e, R, s, m, args, below, meth, c, Q⟩ := X
  obtain ⟨base, od, D, ca, L, xs, fm⟩ := P
  obtain ⟨hx, hb, hml, hown, hts, hin, hG0, hbs, hfr, hlo⟩ := C
  obtain ⟨hK, hAO, hNw, hX, hod, hT, hZ, hSt, hRt⟩ := id hG0
  obtain ⟨hd, hpc, hlk, hck⟩ := chk_next hk rfl
  unfold stp at hr
  dsimp only at hr
  split at hr
  · simp only [lkc] at hlk
    intro H locs lsA hR hS2 hL
    have w := ih _ _ _ _ hr hck hI (Nat.le_refl _) (Nat.le_refl _) H locs lsA hR hS2 hL
    rw [hpc] at w
    exact lv_ldc2 hx hb hown (hts _ (wd_in hlk)) hd w
  · exact absurd hr.symm (Option.some_ne_none _)
end NW
