/-! SOUNDNESS, 11: switches, calls -/
theorem tgts_at {y pc : Nat} : ∀ (os : List Int) (bs : List Nat), tgts y pc os bs = true → os.length = bs.length ∧ ∀ (j : Nat) (b : Nat), bs[j]? = some b → ∃ o, os[j]? = some o ∧ (pc : Int) + o = (fpc y b : Int) ∧ b < (mth y).1.length := by
  intro os
  induction os with
  | nil =>
    intro bs h
    cases bs with
    | nil => exact ⟨rfl, fun j b hb => by simp at hb⟩
    | cons b bs => simp [tgts] at h
  | cons o os ih =>
    intro bs h
    cases bs with
    | nil => simp [tgts] at h
    | cons b bs =>
      simp only [tgts, Bool.and_eq_true, decide_eq_true_eq] at h
      obtain ⟨h1, h2⟩ := ih bs h.2
      refine ⟨by simp [h1], fun j b' hb => ?_⟩
      cases j with
      | zero => cases hb; exact ⟨o, rfl, h.1.1, h.1.2⟩
      | succ j => exact h2 j b' hb
theorem swix_at {y pc : Nat} {dfo : Int} {df : Nat} (hd : (pc : Int) + dfo = (fpc y df : Int) ∧ df < (mth y).1.length) (x : Int) : ∀ (ps : List (Int × Int)) (bs : List Nat), tgts y pc (ps.map (fun q => q.2)) bs = true → (pc : Int) + Op.lookupswitch.offset ps dfo x = (fpc y (swix ps bs df x) : Int) ∧ swix ps bs df x < (mth y).1.length := by
  intro ps
  induction ps with
  | nil =>
    intro bs _
    have e : swix [] bs df x = df := by cases bs <;> rfl
    rw [e, Op.lookupswitch.offset_nil]; exact hd
  | cons q ps ih =>
    intro bs h
    obtain ⟨a, o⟩ := q
    cases bs with
    | nil => simp [tgts] at h
    | cons b bs =>
      simp only [List.map_cons, tgts, Bool.and_eq_true, decide_eq_true_eq] at h
      rw [Op.lookupswitch.offset_cons]
      show _ = (fpc y (if x = a then b else swix ps bs df x) : Int) ∧ (if x = a then b else swix ps bs df x) < _
      by_cases e : x = a
      · rw [if_pos e, if_pos (by first | exact e | exact e.symm)]; exact h.1
      · rw [if_neg e, if_neg (by first | exact e | exact fun q => e q.symm)]; exact ih bs h.2
theorem dcl_ok {y pc : Nat} {i : Instr} (h : dcl y pc i = true) : ∃ n, decode (mB y) pc = .ok (i, n) := by
  unfold dcl at h
  split at h
  · rename_i j n e
    exact ⟨n, by rw [e, of_decide_eq_true h]⟩
  · exact absurd h (by decide)
theorem lt5_len {st : List AV} (h : lt5 st = true) : st.length ≤ 4 := by
  match st with
  | [] => simp
  | [_] => simp
  | [_, _] => simp
  | [_, _, _] => simp
  | [_, _, _, _] => simp
  | _ :: _ :: _ :: _ :: _ :: _ => simp [lt5] at h
theorem cat_le {g : Nat → Nat} (v : AV) : (cv g v).category ≤ 2 := by
  rcases v with x | x | x
  · simp [cv, Value.category]
  · simp [cv, Value.category]
  · cases x <;> simp [cv, Value.category, va_rf]
theorem cats_le {g : Nat → Nat} : ∀ (st : List AV), ((st.map (cv g)).map fun v => v.category).sum ≤ 2 * st.length := by
  intro st
  induction st with
  | nil => simp
  | cons v st ih =>
    simp only [List.map_cons, List.sum_cons, List.length_cons]
    have := cat_le (g := g) v
    omega
theorem lt5_cat {g : Nat → Nat} {st : List AV} (h : lt5 st = true) : ((st.map (cv g)).map fun v => v.category).sum ≤ 8 := by
  have := cats_le (g := g) st
  have := lt5_len h
  omega
def PcM (P : Par) (as : List AV) (h : Hp) : Array Value → State → Prop := fun v U => v = (as.map (cv (al P.1 P.2.1))).toArray ∧ Rp P h U.heap ∧ Glob P U U.heap ∧ U.heap.size = P.1 + (hN h - 64)
def QcM (P : Par) (r : Option AV) (h' : Hp) : Array Value → State → Outcome → State → Prop := fun _ st oc t => oc = .returned (r.map (cv (al P.1 P.2.1))) ∧ Rp P h' t.heap ∧ va_F (fun q => P.1 ≤ q) st t
def rmM (d mc ms : Nat) : Room := { frames := d, cells := mc, slots := ms, locals := 100 * d }
def MetP (l : Launch) (P : Par) (d y : Nat) (as : List AV) (h : Hp) (r : Option AV) (h' : Hp) : Prop := Met l (mN y) (Cond.code (mN y) (mB y) (mxl y) (mR y) :: gw) (rmM d (hN h' - hN h) (hU h' - hU h)) (PcM P as h) (QcM P r h') (hN h' - hN h) (hU h' - hU h) (fun q => P.1 ≤ q)
theorem PcM_blind (P : Par) (as : List AV) (h : Hp) : FrameBlind (PcM P as h) := by
  intro a U g mk q
  obtain ⟨q1, q2, q3, q4⟩ := q
  exact ⟨q1, q2, Glob.moved (U := U.calling g mk a) (State.WarmedH.refl U) (Nat.le_refl _) (fun _ _ _ => rfl) (by show P.1 ≤ U.heap.size; rw [q4]; exact Nat.le_add_right _ _) q3, q4⟩
theorem gw_good {w : Cond} (h : w ∈ gw) : w ∈ gw ∧ ((w.onTables && w.keeps) = true ∨ ∃ ty, w = .arrayClass ty) := ⟨h, good_of_word (List.mem_filter.mp h).2⟩
theorem good_ws {y : Nat} (hy : y < nMeth - 1) : GoodIn gw (Cond.code (mN y) (mB y) (mxl y) (mR y) :: gw) := by
  intro w hw
  rcases List.mem_cons.mp hw with rfl | h
  · exact gw_good (code_in y hy)
  · exact gw_good h
theorem good_app {a b : List Cond} (ha : ∀ w ∈ a, w ∈ gw) (hb : GoodIn gw b) : GoodIn gw (a ++ b) := by
  intro w hw
  rcases List.mem_append.mp hw with h | h
  · exact gw_good (ha w h)
  · exact hb w h
theorem mck_of {y : Nat} (hy : y < nMeth - 1) : Cond.initialized (mN y).cls ∈ gw ∧ (isStat y = true → Cond.static (mN y) ∈ gw) ∧ (isStat y = false → Cond.instanceMethod (mN y) ∈ gw) ∧ ((mP y).getD 4 9999 < 9999 → Cond.selects (mN y).cls (mN y) (mN y) ∈ gw) ∧ plainFor (mN y) = true ∧ (mN y).cls ≠ "java/lang/invoke/MethodHandle" ∧ (mN y).cls ≠ "java/lang/invoke/VarHandle" ∧ mxl y ≤ 60 ∧ (mth y).1 ≠ [] := by
  have h := mck_a y hy
  simp only [mck, Bool.and_eq_true, Bool.or_eq_true, decide_eq_true_eq] at h
  obtain ⟨⟨⟨⟨⟨⟨⟨h1, h2⟩, h3⟩, h4⟩, h5⟩, h6⟩, h7⟩, h8⟩ := h
  refine ⟨wd_in h1, fun e => ?_, fun e => ?_, fun e => ?_, h4, h5, h6, h7, h8⟩
  · rw [if_pos e] at h2; exact wd_in h2
  · rw [if_neg (by rw [e]; decide)] at h2; exact wd_in h2
  · rcases h3 with h3 | h3
    · omega
    · exact wd_in h3
section CA
variable {p : Program} {l : Launch} {e : Env} {R : Room} {s : State} {m : MethodId} {args : Array Value} {below : List Frame} {meth : Method} {c : Code} {H : Heap} {locs : List Loc} {cells slots : Nat} {Q : State → Prop}
theorem call_go {pc : Nat} {ls : Array Slot} {rest st0 : List Value} {a : Array Value} {mc ms : Nat} {P : Par} {r : Option AV} {h' : Hp} (hr : va_Run p l e R s m args below meth c H locs cells slots mc ms (F0 m pc ls st0) rest (QcM P r h' a) (fun q => P.1 ≤ q)) (hS : va_S (fun q => P.1 ≤ q) s.heap H locs)
    (kk : ∀ (H1 : Heap) (locs1 : List Loc), Rp P h' H1 → va_S (fun q => P.1 ≤ q) s.heap H1 locs1 → W p l e R s m args below meth c H1 locs1 (cells + mc) (slots + ms) Q (F0 m (pc + 3) ls ((r.map (cv (al P.1 P.2.1))).toList ++ rest))) : W p l e R s m args below meth c H locs cells slots Q (F0 m pc ls st0) := by
  intro T hT X
  obtain ⟨v, st₀, t, T', L, h0, X', hL, e1, e2, ⟨hv, hp, hz, hk⟩, st⟩ := hr T hT X
  cases hv
  rw [h0] at hz hk
  obtain ⟨t2, a1, b1⟩ := kk T'.heap (locs ++ L) (by rw [e1]; exact hp)
    ⟨Nat.le_trans hS.1 (by rw [e1]; exact hz), fun q h1 h2 => by rw [e1, hk q (Nat.lt_of_lt_of_le h1 hS.1) h2]; exact hS.2.1 q h1 h2, fun q hq => by
      rcases List.mem_append.mp hq with h | h
      · exact hS.2.2 q h
      · exact hL q h⟩ T' rfl X'
  exact ⟨t2, st t2 a1, b1⟩
end CA
theorem psh_map {g : Nat → Nat} (r : Option AV) (st : List AV) : (psh r st).map (cv g) = (r.map (cv g)).toList ++ st.map (cv g) := by cases r <;> rfl
theorem cp_nat : Cond.native arraycopyName ∈ gw := wd_in (p := 995) (by decide +kernel)
theorem cp_stat : Cond.static arraycopyName ∈ gw := wd_in (p := 994) (by decide +kernel)
theorem cp_ini : Cond.initialized "java/lang/System" ∈ gw := wd_in (p := 114) (by decide +kernel)
theorem oi_inst : Cond.instanceMethod Lib.objectInit ∈ gw := wd_in (p := 121) (by decide +kernel)
theorem oi_code : Cond.code Lib.objectInit ⟨#[0xb1]⟩ 1 none ∈ gw := wd_in (p := 122) (by decide +kernel)
section SW
variable {X : Cxt} {P : Par} {n0 u0 y d pc : Nat} {lk : List Nat} {z : Int} {ops : List Op} {ls : LV} {st : List AV} {h : Hp} {cl : Nat → List AV → Hp → Rs} {k : List Op → LV → List AV → Hp → Rs} {r : Option AV × Hp}
theorem sn_table {o lo hi : Int} {os : Array Int} (hy : y < nMeth) (C : Cx X P y d n0) (hI : Iv (hq0 P) h) (hk : chkL y ((pc, .tableswitch o lo hi os, lk, z) :: ops) = true) (hr : stp cl k d y (.tableswitch o lo hi os) lk z ops ls st h = some r) (ih : ∀ o l s h2, k o l s h2 = some r → chkL y o = true → Iv (hq0 P) h2 → hN h ≤ hN h2 → hU h ≤ hU h2 → GoW X P n0 u0 y o l s h2) : GoW X P n0 u0 y ((pc, .tableswitch o lo hi os, lk, z) :: ops) ls st h := by
  obtain ⟨p, l, e, R, s, m, args, below, meth, c, Q⟩ := X
  obtain ⟨base, od, D, ca, L, xs, fm⟩ := P
  obtain ⟨hx, hb, hml, hown, hts, hin, hG0, hbs, hfr, hlo⟩ := C
  obtain ⟨hK, hAO, hNw, hX, hod, hT, hZ, hSt, hRt⟩ := id hG0
  have ht := chk_last hk rfl
  unfold stp at hr
  dsimp only at hr
  split at hr
  · rename_i df bs x st2
    simp only [chkT, Bool.and_eq_true, decide_eq_true_eq] at ht
    obtain ⟨⟨⟨⟨hdc, ht1⟩, hdf⟩, htg⟩, hlen⟩ := ht
    obtain ⟨n, hd⟩ := dcl_ok hdc
    obtain ⟨hl1, hl2⟩ := tgts_at _ _ htg
    intro H locs lsA hR hS2 hL
    by_cases hq : x.toInt < lo ∨ hi < x.toInt
    · rw [if_pos hq] at hr
      have w := ih _ _ _ _ hr (blk_chk hy hdf) hI (Nat.le_refl _) (Nat.le_refl _) H locs lsA hR hS2 hL
      rw [pco_blk] at w
      exact lv_tableOut hx hb hd hq ht1 w
    · rw [if_neg hq] at hr
      have hix : (x.toInt - lo).toNat < bs.length := by omega
      obtain ⟨b, hbb⟩ : ∃ b, bs[(x.toInt - lo).toNat]? = some b := ⟨_, List.getElem?_eq_getElem hix⟩
      obtain ⟨of, ho, ht2, hbl⟩ := hl2 _ _ hbb
      rw [List.getD_eq_getElem?_getD, hbb] at hr
      have w := ih _ _ _ _ hr (blk_chk hy hbl) hI (Nat.le_refl _) (Nat.le_refl _) H locs lsA hR hS2 hL
      rw [show (some b).getD 0 = b from rfl, pco_blk] at w
      exact lv_tableIn hx hb hd (fun q => hq (Or.inl q)) (fun q => hq (Or.inr q)) (by rw [← Array.getElem?_toList]; exact ho) ht2 w
  · exact absurd hr.symm (Option.some_ne_none _)
theorem sn_lookup {o : Int} {ps : Array (Int × Int)} (hy : y < nMeth) (C : Cx X P y d n0) (hI : Iv (hq0 P) h) (hk : chkL y ((pc, .lookupswitch o ps, lk, z) :: ops) = true) (hr : stp cl k d y (.lookupswitch o ps) lk z ops ls st h = some r) (ih : ∀ o l s h2, k o l s h2 = some r → chkL y o = true → Iv (hq0 P) h2 → hN h ≤ hN h2 → hU h ≤ hU h2 → GoW X P n0 u0 y o l s h2) : GoW X P n0 u0 y ((pc, .lookupswitch o ps, lk, z) :: ops) ls st h := by
  obtain ⟨p, l, e, R, s, m, args, below, meth, c, Q⟩ := X
  obtain ⟨base, od, D, ca, L, xs, fm⟩ := P
  obtain ⟨hx, hb, hml, hown, hts, hin, hG0, hbs, hfr, hlo⟩ := C
  obtain ⟨hK, hAO, hNw, hX, hod, hT, hZ, hSt, hRt⟩ := id hG0
  have ht := chk_last hk rfl
  unfold stp at hr
  dsimp only at hr
  split at hr
  · rename_i df bs x st2
    simp only [chkT, Bool.and_eq_true, decide_eq_true_eq] at ht
    obtain ⟨⟨⟨⟨hdc, ht1⟩, hdf⟩, htg⟩, hsrt⟩ := ht
    obtain ⟨n, hd⟩ := dcl_ok hdc
    obtain ⟨ht2, hbl⟩ := swix_at ⟨ht1, hdf⟩ x.toInt _ _ htg
    intro H locs lsA hR hS2 hL
    have w := ih _ _ _ _ hr (blk_chk hy hbl) hI (Nat.le_refl _) (Nat.le_refl _) H locs lsA hR hS2 hL
    rw [pco_blk] at w
    exact lv_lookup hx hb hd hsrt rfl ht2 w
  · exact absurd hr.symm (Option.some_ne_none _)
theorem sn_static {n : Nat} (C : Cx X P y d n0) (hI : Iv (hq0 P) h) (hcl : ∀ y2 as r1 h1, cl y2 as h = some (r1, h1) → y2 < nMeth - 1 → 1 ≤ d ∧ MetP X.2.1 P (d - 1) y2 as h r1 h1 ∧ Iv (hq0 P) h1 ∧ hN h ≤ hN h1 ∧ hU h ≤ hU h1) (hmon : ∀ o l s h2, k o l s h2 = some r → chkL y o = true → Iv (hq0 P) h2 → hN h2 ≤ hN r.2 ∧ hU h2 ≤ hU r.2) (hrm : Rm X n0 u0 r.2) (hn0 : n0 ≤ hN h) (hu0 : u0 ≤ hU h) (hk : chkL y ((pc, .invokestatic n, lk, z) :: ops) = true) (hr : stp cl k d y (.invokestatic n) lk z ops ls st h = some r) (ih : ∀ o l s h2, k o l s h2 = some r → chkL y o = true → Iv (hq0 P) h2 → hN h ≤ hN h2 → hU h ≤ hU h2 → GoW X P n0 u0 y o l s h2) : GoW X P n0 u0 y ((pc, .invokestatic n, lk, z) :: ops) ls st h := by
  obtain ⟨p, l, e, R, s, m, args, below, meth, c, Q⟩ := X
  obtain ⟨base, od, D, ca, L, xs, fm⟩ := P
  obtain ⟨hx, hb, hml, hown, hts, hin, hG0, hbs, hfr, hlo⟩ := C
  obtain ⟨hK, hAO, hNw, hX, hod, hT, hZ, hSt, hRt⟩ := id hG0
  obtain ⟨hd, hpc, hlk, hck⟩ := chk_next hk rfl
  unfold stp at hr
  dsimp only at hr
  split at hr
  · rename_i e2 p2
    split at hr
    · rename_i k2 dp b sp a st2
      obtain ⟨⟨ha, hbb, hne, h1, h2, h3, h4, h5, h6, h7⟩, hr⟩ := gd_some hr
      simp only [lkc] at hlk
      intro H locs lsA hR hS2 hL
      obtain ⟨a1, a2⟩ := hI.new (Z0_hp0 L xs fm) (a := a) (by omega) (by omega) (by omega) (by omega)
      obtain ⟨b1, b2⟩ := hI.new (Z0_hp0 L xs fm) (a := b) (by omega) (by omega) (by omega) (by omega)
      obtain ⟨qa, hqa⟩ := wsH_get (base := base) (g := al base od) (ca := ca) (h := h) a1 a2
      obtain ⟨qb, hqb⟩ := wsH_get (base := base) (g := al base od) (ca := ca) (h := h) b1 b2
      have hset : (wsH base (al base od) ca h).set qb (base + (b - 64), .inl (ca 100, (hS h b).2, .inl (va_cpy (hE h a) (hE h b) sp.toNatClampNeg dp.toNatClampNeg k2.toNatClampNeg))) = wsH base (al base od) ca (cpE h a sp.toNatClampNeg b dp.toNatClampNeg k2.toNatClampNeg) := by
        refine wsH_set (h' := cpE h a sp.toNatClampNeg b dp.toNatClampNeg k2.toNatClampNeg) b1 b2 hqb rfl (fun x hx => cE_cpE_ne hx) ?_
        rw [cE_int (h := cpE h a sp.toNatClampNeg b dp.toNatClampNeg k2.toNatClampNeg) (k := 100) hbb (by omega) (by omega)]
        have e3 : hE (cpE h a sp.toNatClampNeg b dp.toNatClampNeg k2.toNatClampNeg) b = va_cpy (hE h a) (hE h b) sp.toNatClampNeg dp.toNatClampNeg k2.toNatClampNeg := by
          funext i; rw [hE_cpE, if_pos rfl]
        rw [e3]; rfl
      rw [cE_int ha (by omega) (by omega)] at hqa
      rw [cE_int hbb (by omega) (by omega)] at hqb
      refine W.eq (g2 := F0 m pc lsA (.int k2 :: .int dp :: .ref (base + (b - 64)) :: .int sp :: .ref (base + (a - 64)) :: _)) (by show F0 m pc lsA (.int k2 :: .int dp :: .ref (al base od b) :: .int sp :: .ref (al base od a) :: _) = _; rw [al_new a1, al_new b1]) ?_
      refine va_copyi (ty := .int) hx hb (hml.trans hL.2.1.symm) hown (hts _ (wd_in hlk)) (hts _ cp_nat) (hts _ cp_stat) (hts _ cp_ini) hK hR wsH_D hS2 qa qb 0 0 hqa hqb rfl rfl rfl (not_neg h1) (not_neg h2) (not_neg h3) h4 h5 (fun i _ => rfl) (by omega) ?_ hd (fun H1 locs1 hP1 hD1 hS1 => ?_)
      · have := lt5_cat (g := al base od) h6
        rw [show nativeFrameWords "java/lang/System" "arraycopy" 5 = 7 by decide +kernel]
        show ((st2.map (cv (al base od))).map fun v => v.category).sum + 18 ≤ R.locals
        omega
      · rw [hset] at hP1
        have w := ih _ _ _ _ hr hck (hI.cpE b1) (Nat.le_refl _) (Nat.le_refl _) H1 locs1 lsA hP1 hS1 hL
        rw [hpc] at w
        exact w
    · exact absurd hr.symm (Option.some_ne_none _)
  · rename_i y2 k2 c2 p2 q2
    obtain ⟨⟨hg1, hg2⟩, hr⟩ := gd_some hr
    obtain ⟨⟨r1, h1⟩, hc, hr⟩ := Option.bind_eq_some_iff.mp hr
    dsimp only at hr
    simp only [lkc, Bool.and_eq_true, decide_eq_true_eq] at hlk
    obtain ⟨⟨⟨hy2, hst⟩, hnp⟩, hw⟩ := hlk
    obtain ⟨hd1, hM, hI1, hm1, hm2⟩ := hcl y2 _ r1 h1 hc hy2
    obtain ⟨hi1, hi2, hi3, hi4, hi5, hi6, hi7, hi8, -⟩ := mck_of hy2
    obtain ⟨hm3, hm4⟩ := hmon _ _ _ _ hr hck hI1
    have hrm1 : hN r.2 - n0 ≤ R.cells := hrm.1
    have hrm2 : hU r.2 - u0 ≤ R.slots := hrm.2
    intro H locs lsA hR hS2 hL
    refine W_size (P := (base, od, D, ca, L, xs, fm)) hR hn0 hbs hS2 (fun hz => ?_)
    have fin : ∀ (H1 : Heap) (locs1 : List Loc), Rp (base, od, D, ca, L, xs, fm) h1 H1 → va_S (fun q => base ≤ q) s.heap H1 locs1 → W p l e R s m args below meth c H1 locs1 (hN h - n0 + (hN h1 - hN h)) (hU h - u0 + (hU h1 - hU h)) Q (F0 m (pc + 3) lsA ((r1.map (cv (al base od))).toList ++ (st.drop k2).map (cv (al base od)))) := by
      intro H1 locs1 hP1 hS1
      have w := ih _ _ _ _ hr hck hI1 hm1 hm2 H1 locs1 lsA hP1 hS1 hL
      rw [hpc, psh_map, show hN h1 - n0 = hN h - n0 + (hN h1 - hN h) by omega, show hU h1 - u0 = hU h - u0 + (hU h1 - hU h) by omega] at w
      exact w
    have hpre : PreS s H (PcM (base, od, D, ca, L, xs, fm) (st.take k2).reverse h) ((st.take k2).reverse.map (cv (al base od))) := ⟨PcM_blind _ _ _, fun U hU hW => ⟨rfl, by rw [hU]; exact hR, by rw [hU]; exact Glob.moved hW hS2.1 hS2.2.1 (by rw [hbs.2]; exact Nat.le_add_right _ _) hG0, by rw [hU]; exact hz⟩⟩
    have hlen : ((st.take k2).reverse.map (cv (al base od))).length = k2 := by
      rw [List.length_map, List.length_reverse, List.length_take]; omega
    have hstk : st.map (cv (al base od)) = ((st.take k2).reverse.map (cv (al base od))).reverse ++ (st.drop k2).map (cv (al base od)) := by
      rw [List.map_reverse, List.reverse_reverse, ← List.map_append, List.take_append_drop]
    have hroom : (rmM (d - 1) (hN h1 - hN h) (hU h1 - hU h)).frames + 1 ≤ R.frames ∧ 8 + (mxl y2 + 11) + (rmM (d - 1) (hN h1 - hN h) (hU h1 - hU h)).locals ≤ R.locals := by
      show d - 1 + 1 ≤ _ ∧ 8 + (mxl y2 + 11) + 100 * (d - 1) ≤ _
      omega
    by_cases hq : q2 = 0
    · rw [if_pos hq] at hw
      refine call_go (va_runS (Ts := gw) ⟨hx, hb, hml, hown, hts⟩ hM (va_cwS k2 hts (good_app (by intro w hw2; simp only [List.mem_cons, List.not_mem_nil, or_false] at hw2; rcases hw2 with rfl | rfl | rfl; exact wd_in hw; exact hi2 hst; exact hi1) (good_ws hy2)) rfl rfl rfl ⟨hi6, hi7, hnp⟩ hroom) hpre rfl hlen hL.2.1 hstk (by show 2 * 0 + _ ≤ 8; have := lt5_cat (g := al base od) hg2; omega) hd ⟨by omega, by omega⟩) hS2 fin
    · rw [if_neg hq] at hw
      refine call_go (va_runSN (Ts := gw) ⟨hx, hb, hml, hown, hts⟩ hM ⟨va_cnB k2 hts (good_ws hy2) rfl rfl rfl (hNw _ (wdN_in hw) rfl) (hts _ hi1) ⟨hi6, hi7, hnp⟩ hroom, hts _ (hi2 hst), trivial⟩ hpre rfl hlen hL.2.1 hstk (by show 2 * 0 + _ ≤ 8; have := lt5_cat (g := al base od) hg2; omega) hd ⟨by omega, by omega⟩) hS2 fin
  · exact absurd hr.symm (Option.some_ne_none _)
theorem sn_virtual {n : Nat} (C : Cx X P y d n0) (hI : Iv (hq0 P) h) (hcl : ∀ y2 as r1 h1, cl y2 as h = some (r1, h1) → y2 < nMeth - 1 → 1 ≤ d ∧ MetP X.2.1 P (d - 1) y2 as h r1 h1 ∧ Iv (hq0 P) h1 ∧ hN h ≤ hN h1 ∧ hU h ≤ hU h1) (hmon : ∀ o l s h2, k o l s h2 = some r → chkL y o = true → Iv (hq0 P) h2 → hN h2 ≤ hN r.2 ∧ hU h2 ≤ hU r.2) (hrm : Rm X n0 u0 r.2) (hn0 : n0 ≤ hN h) (hu0 : u0 ≤ hU h) (hk : chkL y ((pc, .invokevirtual n, lk, z) :: ops) = true) (hr : stp cl k d y (.invokevirtual n) lk z ops ls st h = some r) (ih : ∀ o l s h2, k o l s h2 = some r → chkL y o = true → Iv (hq0 P) h2 → hN h ≤ hN h2 → hU h ≤ hU h2 → GoW X P n0 u0 y o l s h2) : GoW X P n0 u0 y ((pc, .invokevirtual n, lk, z) :: ops) ls st h := by
  obtain ⟨p, l, e, R, s, m, args, below, meth, c, Q⟩ := X
  obtain ⟨base, od, D, ca, L, xs, fm⟩ := P
  obtain ⟨hx, hb, hml, hown, hts, hin, hG0, hbs, hfr, hlo⟩ := C
  obtain ⟨hK, hAO, hNw, hX, hod, hT, hZ, hSt, hRt⟩ := id hG0
  obtain ⟨hd, hpc, hlk, hck⟩ := chk_next hk rfl
  unfold stp at hr
  dsimp only at hr
  split at hr
  · rename_i y2 k2 c2 p2 q2
    split at hr
    · rename_i a rest heq
      obtain ⟨⟨hg0, hg1, hg2⟩, hr⟩ := gd_some hr
      obtain ⟨⟨r1, h1⟩, hc, hr⟩ := Option.bind_eq_some_iff.mp hr
      dsimp only at hr
      simp only [lkc, Bool.and_eq_true, Bool.or_eq_true, decide_eq_true_eq, Bool.not_eq_true', beq_iff_eq] at hlk
      obtain ⟨⟨⟨⟨⟨⟨hy2, hst⟩, hk0⟩, hnp⟩, hcc⟩, hsel⟩, hq0, hw⟩ := hlk
      obtain ⟨hd1, hM, hI1, hm1, hm2⟩ := hcl y2 _ r1 h1 hc hy2
      obtain ⟨hi1, hi2, hi3, hi4, hi5, hi6, hi7, hi8, -⟩ := mck_of hy2
      obtain ⟨hm3, hm4⟩ := hmon _ _ _ _ hr hck hI1
      have hrm1 : hN r.2 - n0 ≤ R.cells := hrm.1
      have hrm2 : hU r.2 - u0 ≤ R.slots := hrm.2
      intro H locs lsA hR hS2 hL
      refine W_size (P := (base, od, D, ca, L, xs, fm)) hR hn0 hbs hS2 (fun hz => ?_)
      have fin : ∀ (H1 : Heap) (locs1 : List Loc), Rp (base, od, D, ca, L, xs, fm) h1 H1 → va_S (fun q => base ≤ q) s.heap H1 locs1 → W p l e R s m args below meth c H1 locs1 (hN h - n0 + (hN h1 - hN h)) (hU h - u0 + (hU h1 - hU h)) Q (F0 m (pc + 3) lsA ((r1.map (cv (al base od))).toList ++ rest.map (cv (al base od)))) := by
        intro H1 locs1 hP1 hS1
        have w := ih _ _ _ _ hr hck hI1 hm1 hm2 H1 locs1 lsA hP1 hS1 hL
        rw [hpc, psh_map, show hN h1 - n0 = hN h - n0 + (hN h1 - hN h) by omega, show hU h1 - u0 = hU h - u0 + (hU h1 - hU h) by omega] at w
        exact w
      have hstk : st.map (cv (al base od)) = ((st.take (k2 - 1)).reverse.map (cv (al base od))).reverse ++ .ref (al base od a) :: rest.map (cv (al base od)) := by
        rw [List.map_reverse, List.reverse_reverse]
        conv => lhs; rw [← List.take_append_drop (k2 - 1) st, heq]
        rw [List.map_append]; rfl
      have hk1 : k2 - 1 < st.length := by
        rcases Nat.lt_or_ge (k2 - 1) st.length with q | q
        · exact q
        · rw [List.drop_eq_nil_of_le q] at heq; cases heq
      have hlen : ((st.take (k2 - 1)).reverse.map (cv (al base od))).length = k2 - 1 := by
        rw [List.length_map, List.length_reverse, List.length_take]; omega
      have hroom : (rmM (d - 1) (hN h1 - hN h) (hU h1 - hU h)).frames + 1 ≤ R.frames ∧ 8 + (mxl y2 + 11) + (rmM (d - 1) (hN h1 - hN h) (hU h1 - hU h)).locals ≤ R.locals := by
        show d - 1 + 1 ≤ _ ∧ 8 + (mxl y2 + 11) + 100 * (d - 1) ≤ _
        omega
      have hpre : PreV s H (mN y2).cls (al base od a) (PcM (base, od, D, ca, L, xs, fm) (.inr (.inr (some a)) :: (st.take (k2 - 1)).reverse) h) ((st.take (k2 - 1)).reverse.map (cv (al base od))) := by
        refine ⟨PcM_blind _ _ _, ?_, fun U hU hW => ⟨rfl, by rw [hU]; exact hR, by rw [hU]; exact Glob.moved hW hS2.1 hS2.2.1 (by rw [hbs.2]; exact Nat.le_add_right _ _) hG0, by rw [hU]; exact hz⟩⟩
        rcases hcc with ⟨rfl, hcn⟩ | ⟨⟨hc1, hc2⟩, hcn⟩
        · rw [hcn]
          have ha : a < 64 := hI.old (Or.inl (by rw [hg1]))
          have h13 : s0S L a = (13, 0) := (hI.2.1 a ha).1.symm.trans hg1
          have hr10 := s0S_13 h13
          obtain ⟨i, rfl⟩ : ∃ i, a = 10 + i := ⟨a - 10, by omega⟩
          rw [al_old ha]
          exact vk_recv hSt (i := i) (by omega) hS2
        · rw [hcn]
          obtain ⟨a1, a2⟩ := hI.new (Z0_hp0 L xs fm) (a := a) (by rw [hg1]; simp only; omega) (by rw [hg1]; simp only; omega) (by rw [hg1]; simp only; omega) (by rw [hg1]; simp only; omega)
          obtain ⟨q, hq⟩ := wsH_get (base := base) (g := al base od) (ca := ca) (h := h) a1 a2
          rw [cE_obj hg1 hc2] at hq
          rw [al_new a1]
          exact va_recv hK hR (cls_at c2 hc1 hc2) hq
      refine call_go (va_runV (Ts := gw) ⟨hx, hb, hml, hown, hts⟩ hM (cwV (k2 - 1) hts (good_app (by intro w hw2; simp only [List.mem_cons, List.not_mem_nil, or_false] at hw2; rcases hw2 with rfl | rfl | rfl | rfl; exact wd_in hw; exact hi3 hst; exact hi4 hsel; exact hi1) (good_ws hy2)) rfl rfl rfl ⟨rfl, hi6, hi7, hnp⟩ hroom) hpre rfl hlen hL.2.1 hstk (by show 2 * 0 + _ ≤ 8; have := lt5_cat (g := al base od) hg2; omega) hd ⟨by omega, by omega⟩) hS2 fin
    · exact absurd hr.symm (Option.some_ne_none _)
  · exact absurd hr.symm (Option.some_ne_none _)
theorem sn_special {n : Nat} (C : Cx X P y d n0) (hI : Iv (hq0 P) h) (hcl : ∀ y2 as r1 h1, cl y2 as h = some (r1, h1) → y2 < nMeth - 1 → 1 ≤ d ∧ MetP X.2.1 P (d - 1) y2 as h r1 h1 ∧ Iv (hq0 P) h1 ∧ hN h ≤ hN h1 ∧ hU h ≤ hU h1) (hmon : ∀ o l s h2, k o l s h2 = some r → chkL y o = true → Iv (hq0 P) h2 → hN h2 ≤ hN r.2 ∧ hU h2 ≤ hU r.2) (hrm : Rm X n0 u0 r.2) (hn0 : n0 ≤ hN h) (hu0 : u0 ≤ hU h) (hk : chkL y ((pc, .invokespecial n, lk, z) :: ops) = true) (hr : stp cl k d y (.invokespecial n) lk z ops ls st h = some r) (ih : ∀ o l s h2, k o l s h2 = some r → chkL y o = true → Iv (hq0 P) h2 → hN h ≤ hN h2 → hU h ≤ hU h2 → GoW X P n0 u0 y o l s h2) : GoW X P n0 u0 y ((pc, .invokespecial n, lk, z) :: ops) ls st h := by
  obtain ⟨p, l, e, R, s, m, args, below, meth, c, Q⟩ := X
  obtain ⟨base, od, D, ca, L, xs, fm⟩ := P
  obtain ⟨hx, hb, hml, hown, hts, hin, hG0, hbs, hfr, hlo⟩ := C
  obtain ⟨hK, hAO, hNw, hX, hod, hT, hZ, hSt, hRt⟩ := id hG0
  obtain ⟨hd, hpc, hlk, hck⟩ := chk_next hk rfl
  unfold stp at hr
  dsimp only at hr
  split at hr
  · rename_i e2 p2
    split at hr
    · rename_i a st2
      obtain ⟨⟨hg1, hg2⟩, hr⟩ := gd_some hr
      simp only [lkc] at hlk
      intro H locs lsA hR hS2 hL
      have w := ih _ _ _ _ hr hck hI (Nat.le_refl _) (Nat.le_refl _) H locs lsA hR hS2 hL
      rw [hpc] at w
      refine W.objInit hx hb hown (hts _ (wd_in hlk)) (hts _ oi_inst) (hts _ oi_code) rfl (hL.2.1.trans hml.symm) rfl hd (by omega) ?_ w
      have := lt5_cat (g := al base od) hg1
      show 2 * 0 + ((st2.map (cv (al base od))).map fun v => v.category).sum + 12 ≤ R.locals
      omega
    · exact absurd hr.symm (Option.some_ne_none _)
  · rename_i y2 k2 c2 p2 q2
    split at hr
    · rename_i a rest heq
      obtain ⟨⟨hg0, hg1, hg2⟩, hr⟩ := gd_some hr
      obtain ⟨⟨r1, h1⟩, hc, hr⟩ := Option.bind_eq_some_iff.mp hr
      dsimp only at hr
      simp only [lkc, Bool.and_eq_true, Bool.or_eq_true, decide_eq_true_eq, Bool.not_eq_true', beq_iff_eq] at hlk
      obtain ⟨⟨⟨⟨⟨⟨⟨⟨hy2, hst⟩, hk0⟩, hnp⟩, hc1⟩, hc2⟩, hin2⟩, hret⟩, hw⟩ := hlk
      obtain ⟨hd1, hM, hI1, hm1, hm2⟩ := hcl y2 _ r1 h1 hc hy2
      obtain ⟨hi1, hi2, hi3, hi4, hi5, hi6, hi7, hi8, -⟩ := mck_of hy2
      obtain ⟨hm3, hm4⟩ := hmon _ _ _ _ hr hck hI1
      have hrm1 : hN r.2 - n0 ≤ R.cells := hrm.1
      have hrm2 : hU r.2 - u0 ≤ R.slots := hrm.2
      intro H locs lsA hR hS2 hL
      refine W_size (P := (base, od, D, ca, L, xs, fm)) hR hn0 hbs hS2 (fun hz => ?_)
      have fin : ∀ (H1 : Heap) (locs1 : List Loc), Rp (base, od, D, ca, L, xs, fm) h1 H1 → va_S (fun q => base ≤ q) s.heap H1 locs1 → W p l e R s m args below meth c H1 locs1 (hN h - n0 + (hN h1 - hN h)) (hU h - u0 + (hU h1 - hU h)) Q (F0 m (pc + 3) lsA ((r1.map (cv (al base od))).toList ++ rest.map (cv (al base od)))) := by
        intro H1 locs1 hP1 hS1
        have w := ih _ _ _ _ hr hck hI1 hm1 hm2 H1 locs1 lsA hP1 hS1 hL
        rw [hpc, psh_map, show hN h1 - n0 = hN h - n0 + (hN h1 - hN h) by omega, show hU h1 - u0 = hU h - u0 + (hU h1 - hU h) by omega] at w
        exact w
      have hstk : st.map (cv (al base od)) = ((st.take (k2 - 1)).reverse.map (cv (al base od))).reverse ++ .ref (al base od a) :: rest.map (cv (al base od)) := by
        rw [List.map_reverse, List.reverse_reverse]
        conv => lhs; rw [← List.take_append_drop (k2 - 1) st, heq]
        rw [List.map_append]; rfl
      have hk1 : k2 - 1 < st.length := by
        rcases Nat.lt_or_ge (k2 - 1) st.length with q | q
        · exact q
        · rw [List.drop_eq_nil_of_le q] at heq; cases heq
      have hlen : ((st.take (k2 - 1)).reverse.map (cv (al base od))).length = k2 - 1 := by
        rw [List.length_map, List.length_reverse, List.length_take]; omega
      have hroom : (rmM (d - 1) (hN h1 - hN h) (hU h1 - hU h)).frames + 1 ≤ R.frames ∧ 8 + (mxl y2 + 11) + (rmM (d - 1) (hN h1 - hN h) (hU h1 - hU h)).locals ≤ R.locals := by
        show d - 1 + 1 ≤ _ ∧ 8 + (mxl y2 + 11) + 100 * (d - 1) ≤ _
        omega
      have hpre : PreS s H (PcM (base, od, D, ca, L, xs, fm) (.inr (.inr (some a)) :: (st.take (k2 - 1)).reverse) h) (.ref (al base od a) :: (st.take (k2 - 1)).reverse.map (cv (al base od))) := ⟨PcM_blind _ _ _, fun U hU hW => ⟨rfl, by rw [hU]; exact hR, by rw [hU]; exact Glob.moved hW hS2.1 hS2.2.1 (by rw [hbs.2]; exact Nat.le_add_right _ _) hG0, by rw [hU]; exact hz⟩⟩
      have hwk : GoodIn gw (Cond.code (mN y2) (mB y2) (mxl y2) none :: gw) := by rw [← hret]; exact good_ws hy2
      have hM2 : Met l (mN y2) (Cond.code (mN y2) (mB y2) (mxl y2) none :: gw) (rmM (d - 1) (hN h1 - hN h) (hU h1 - hU h)) (PcM (base, od, D, ca, L, xs, fm) (.inr (.inr (some a)) :: (st.take (k2 - 1)).reverse) h) (QcM (base, od, D, ca, L, xs, fm) r1 h1) (hN h1 - hN h) (hU h1 - hU h) (fun q => base ≤ q) := by rw [← hret]; exact hM
      by_cases hq : q2 = 0
      · rw [if_pos hq] at hw
        refine call_go (va_runI (Ts := gw) ⟨hx, hb, hml, hown, hts⟩ hM2 (cwI (k2 - 1) hts hwk rfl rfl rfl (hts _ hi1) (hts _ (wd_in hw)) (hts _ (hi3 hst)) hin2 ⟨hi6, hi7, hnp⟩ hroom) hpre rfl hlen hL.2.1 hstk (by show 2 * 0 + _ ≤ 8; have := lt5_cat (g := al base od) hg2; omega) hd ⟨by omega, by omega⟩) hS2 fin
      · rw [if_neg hq] at hw
        refine call_go (va_runIN (Ts := gw) ⟨hx, hb, hml, hown, hts⟩ hM2 ⟨va_cnB (k2 - 1) hts hwk rfl rfl rfl (hNw _ (wdN_in hw) rfl) (hts _ hi1) ⟨hi6, hi7, hnp⟩ hroom, hin2, hts _ (hi3 hst)⟩ hpre rfl hlen hL.2.1 hstk (by show 2 * 0 + _ ≤ 8; have := lt5_cat (g := al base od) hg2; omega) hd ⟨by omega, by omega⟩) hS2 fin
    · exact absurd hr.symm (Option.some_ne_none _)
  · exact absurd hr.symm (Option.some_ne_none _)
end SW
