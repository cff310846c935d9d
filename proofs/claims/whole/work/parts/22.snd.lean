/-! SOUNDNESS, 13: what the small machine does, the machine does -/
def retAt (y pc : Nat) (r : Option AV) : Prop := match r with
  | none => decode (mB y) pc = .ok (.return_, 1) ∧ mR y = none
  | some (.inl x) => decode (mB y) pc = .ok (.ireturn, 1) ∧ fitT (rtc (mR y)) x ∧ rtc (mR y) ∈ [0, 1, 3, 4]
  | some (.inr (.inl _)) => decode (mB y) pc = .ok (.lreturn, 1) ∧ rtc (mR y) = 5
  | some (.inr (.inr _)) => decode (mB y) pc = .ok (.areturn, 1) ∧ rtc (mR y) = 2
def RetOk (X : Cxt) (P : Par) (y n0 u0 : Nat) (r : Option AV) (h' : Hp) : Prop := match X with
  | (p, l, e, R, s, m, args, below, meth, c, Q) => ∀ (H : Heap) (locs : List Loc) (lsA : Array Slot) (pc : Nat), Rp P h' H → va_S (fun q => P.1 ≤ q) s.heap H locs → retAt y pc r → W p l e R s m args below meth c H locs (hN h' - n0) (hU h' - u0) Q (F0 m pc lsA (r.map (cv (al P.1 P.2.1))).toList)
theorem Met.ofWF {l : Launch} {y : MethodName} {ws ws' : List Cond} {rm : Room} {Pc : Array Value → State → Prop} {Qc : Array Value → State → Outcome → State → Prop} {mc ms : Nat} {free : Addr → Prop} {cc : ByteArray} {maxL : Nat} {ret : Option FieldType}
    (hy : plainFor y = true) (hw : ws = Cond.code y cc maxL ret :: ws')
    (body : ∀ p e s m args below meth c s₁, BodyLoose p l y (headSpec ws rm) cc maxL ret e s m args below meth c s₁ → c.maxLocals = maxL → Pc args s →
      W p l e (headSpec ws rm).room s m args below meth c s.heap [] 0 0 (MQ below Qc args s mc ms free) (entryFrame m args maxL)) : Met l y ws rm Pc Qc mc ms free := by
  refine MetFree.of_bodySF (code := cc) (maxLocals := maxL) (ret := ret) hy ?_ ?_
  · intro args s m h hn
    obtain ⟨meth, c, h1, h2, h3, h4, h5, h6, -, -⟩ := Cond.code_spec hn (atoms_spec (ws := ws) h _ (by rw [hw]; exact List.mem_cons_self))
    exact ⟨meth, c, h1, h2, h3, h4, h5, h6⟩
  · intro p e s m args below meth c s₁ B hml hP _
    have hh0 : s₁.heap = s.heap := by rw [B.state]; rfl
    obtain ⟨t, a1, o, b1, b2, b3⟩ := body p e s m args below meth c s₁ B hml hP s₁ hh0 (Stand.of_body B)
    exact ⟨t, o, a1, b1, b2, ⟨b3.1, b3.2⟩⟩
def MetIH (P : Par) (l : Launch) (n : Nat) : Prop := ∀ (d y : Nat) (as : List AV) (h : Hp) (r : Option AV) (h' : Hp), y < nMeth - 1 → ex n d y (eb y as) (en (mxl y) as) [] h = some (r, h') → Iv (hq0 P) h → MetP l P d y as h r h'
set_option maxHeartbeats 4000000 in
theorem snd (P : Par) (l : Launch) (n : Nat) (hM : MetIH P l n) (ihn : ∀ (d y : Nat) (ops : List Op) (ls : LV) (st : List AV) (h : Hp) (r : Option AV × Hp), y < nMeth → ex n d y ops ls st h = some r → chkL y ops = true → Iv (hq0 P) h → ∀ (X : Cxt) (n0 u0 : Nat), X.2.1 = l → Cx X P y d n0 → n0 ≤ hN h → u0 ≤ hU h → Rm X n0 u0 r.2 → RetOk X P y n0 u0 r.1 r.2 → GoW X P n0 u0 y ops ls st h) :
    ∀ (d y : Nat) (ops : List Op) (ls : LV) (st : List AV) (h : Hp) (r : Option AV × Hp), y < nMeth → ex (n + 1) d y ops ls st h = some r → chkL y ops = true → Iv (hq0 P) h → ∀ (X : Cxt) (n0 u0 : Nat), X.2.1 = l → Cx X P y d n0 → n0 ≤ hN h → u0 ≤ hU h → Rm X n0 u0 r.2 → RetOk X P y n0 u0 r.1 r.2 → GoW X P n0 u0 y ops ls st h := by
  intro d y ops ls st h r hy hr hk hI X n0 u0 hl C hn0 hu0 hrm hro
  have z0 : Z0 (hq0 P) := by obtain ⟨base, od, D, ca, L, xs, fm⟩ := P; exact Z0_hp0 L xs fm
  match ops with
  | [] => exact absurd hr (by simp [ex])
  | (pc, i, lk, z) :: ops =>
    rw [ex_s] at hr
    have ih : ∀ o l2 s h2, ex n d y o l2 s h2 = some r → chkL y o = true → Iv (hq0 P) h2 → hN h ≤ hN h2 → hU h ≤ hU h2 → GoW X P n0 u0 y o l2 s h2 := fun o l2 s h2 hr2 hk2 hI2 g1 g2 => ihn d y o l2 s h2 r hy hr2 hk2 hI2 X n0 u0 hl C (Nat.le_trans hn0 g1) (Nat.le_trans hu0 g2) hrm hro
    have ih0 : ∀ o l2 s, ex n d y o l2 s h = some r → chkL y o = true → GoW X P n0 u0 y o l2 s h := fun o l2 s hr2 hk2 => ih o l2 s h hr2 hk2 hI (Nat.le_refl _) (Nat.le_refl _)
    have hmon : ∀ o l2 s h2, ex n d y o l2 s h2 = some r → chkL y o = true → Iv (hq0 P) h2 → hN h2 ≤ hN r.2 ∧ hU h2 ≤ hU r.2 := fun o l2 s h2 hr2 hk2 hI2 => (ex_iv z0 n d y o l2 s h2 r hy hr2 hk2 hI2).2
    have hcl : ∀ y2 as r1 h1, clF n d y2 as h = some (r1, h1) → y2 < nMeth - 1 → 1 ≤ d ∧ MetP X.2.1 P (d - 1) y2 as h r1 h1 ∧ Iv (hq0 P) h1 ∧ hN h ≤ hN h1 ∧ hU h ≤ hU h1 := by
      intro y2 as r1 h1 hc hy2
      cases d with
      | zero => exact absurd hc (by simp [clF])
      | succ d =>
        have hc : ex n d y2 (eb y2 as) (en (mxl y2) as) [] h = some (r1, h1) := hc
        have hy3 : y2 < nMeth := Nat.lt_of_lt_of_le hy2 (Nat.sub_le _ _)
        have hmt := hM d y2 as h r1 h1 hy2 hc hI
        obtain ⟨e1, e2, e3⟩ := eb_chk hy3 hc (mck_of hy2).2.2.2.2.2.2.2.2
        rw [e3] at hc
        obtain ⟨a1, a2, a3⟩ := ex_iv z0 n d y2 _ _ _ _ _ hy3 hc e2 hI
        refine ⟨Nat.succ_le_succ (Nat.zero_le _), ?_, a1, a2, a3⟩
        rw [hl]; exact hmt
    match i, hr, hk with
    | .iconst _, hr, hk => exact sn_iconst C hk hr ih0
    | .bipush _, hr, hk => exact sn_bipush C hk hr ih0
    | .sipush _, hr, hk => exact sn_sipush C hk hr ih0
    | .lconst _, hr, hk => exact sn_lconst C hk hr ih0
    | .aconst_null, hr, hk => exact sn_null C hk hr ih0
    | .iadd, hr, hk => exact sn_iadd C hk hr ih0
    | .isub, hr, hk => exact sn_isub C hk hr ih0
    | .imul, hr, hk => exact sn_imul C hk hr ih0
    | .iand, hr, hk => exact sn_iand C hk hr ih0
    | .ior, hr, hk => exact sn_ior C hk hr ih0
    | .ixor, hr, hk => exact sn_ixor C hk hr ih0
    | .ishl, hr, hk => exact sn_ishl C hk hr ih0
    | .ishr, hr, hk => exact sn_ishr C hk hr ih0
    | .ineg, hr, hk => exact sn_ineg C hk hr ih0
    | .ladd, hr, hk => exact sn_ladd C hk hr ih0
    | .lsub, hr, hk => exact sn_lsub C hk hr ih0
    | .lmul, hr, hk => exact sn_lmul C hk hr ih0
    | .land, hr, hk => exact sn_land C hk hr ih0
    | .lor, hr, hk => exact sn_lor C hk hr ih0
    | .lxor, hr, hk => exact sn_lxor C hk hr ih0
    | .lshl, hr, hk => exact sn_lshl C hk hr ih0
    | .lshr, hr, hk => exact sn_lshr C hk hr ih0
    | .i2l, hr, hk => exact sn_i2l C hk hr ih0
    | .l2i, hr, hk => exact sn_l2i C hk hr ih0
    | .i2b, hr, hk => exact sn_i2b C hk hr ih0
    | .i2c, hr, hk => exact sn_i2c C hk hr ih0
    | .lcmp, hr, hk => exact sn_lcmp C hk hr ih0
    | .idiv, hr, hk => exact sn_idiv C hk hr ih0
    | .irem, hr, hk => exact sn_irem C hk hr ih0
    | .iload_n _, hr, hk => exact sn_iloadN C hk hr ih0
    | .iload _, hr, hk => exact sn_iload C hk hr ih0
    | .lload_n _, hr, hk => exact sn_lloadN C hk hr ih0
    | .lload _, hr, hk => exact sn_lload C hk hr ih0
    | .aload_n _, hr, hk => exact sn_aloadN C hk hr ih0
    | .aload _, hr, hk => exact sn_aload C hk hr ih0
    | .istore_n _, hr, hk => exact sn_istoreN C hk hr ih0
    | .istore _, hr, hk => exact sn_istore C hk hr ih0
    | .lstore_n _, hr, hk => exact sn_lstoreN C hk hr ih0
    | .lstore _, hr, hk => exact sn_lstore C hk hr ih0
    | .astore_n _, hr, hk => exact sn_astoreN C hk hr ih0
    | .astore _, hr, hk => exact sn_astore C hk hr ih0
    | .iinc _ _, hr, hk => exact sn_iinc C hk hr ih0
    | .dup, hr, hk => exact sn_dup C hk hr ih0
    | .pop, hr, hk => exact sn_pop C hk hr ih0
    | .dup2, hr, hk => exact sn_dup2 C hk hr ih0
    | .nop, hr, hk => exact sn_nop hy C hk hr ih0
    | .goto _, hr, hk => exact sn_goto hy C hk hr ih0
    | .ifCond _ _, hr, hk => exact sn_if hy C hk hr ih0
    | .if_icmp _ _, hr, hk => exact sn_icmp hy C hk hr ih0
    | .ifnull _, hr, hk => exact sn_ifnull hy C hk hr ih0
    | .ifnonnull _, hr, hk => exact sn_ifnonnull hy C hk hr ih0
    | .tableswitch _ _ _ _, hr, hk => exact sn_table hy C hI hk hr ih
    | .lookupswitch _ _, hr, hk => exact sn_lookup hy C hI hk hr ih
    | .getfield _, hr, hk => exact sn_getfield C hI hk hr ih
    | .putfield _, hr, hk => exact sn_putfield C hI hk hr ih
    | .getstatic _, hr, hk => exact sn_getstatic C hI hk hr ih
    | .iaload, hr, hk => exact sn_iaload C hI hk hr ih
    | .baload, hr, hk => exact sn_baload C hI hk hr ih
    | .aaload, hr, hk => exact sn_aaload C hI hk hr ih
    | .iastore, hr, hk => exact sn_iastore C hI hk hr ih
    | .bastore, hr, hk => exact sn_bastore C hI hk hr ih
    | .aastore, hr, hk => exact sn_aastore C hI hk hr ih
    | .arraylength, hr, hk => exact sn_alen C hI hk hr ih
    | .ldc _, hr, hk => exact sn_ldc C hI hk hr ih
    | .ldc_w _, hr, hk => exact sn_ldcw C hI hk hr ih
    | .ldc2_w _, hr, hk => exact sn_ldc2 C hI hk hr ih
    | .new _, hr, hk => exact sn_new C hI hmon hrm hn0 hu0 hk hr ih
    | .newarray _, hr, hk => exact sn_newarray C hI hmon hrm hn0 hu0 hk hr ih
    | .anewarray _, hr, hk => exact sn_anewarray C hI hmon hrm hn0 hu0 hk hr ih
    | .invokestatic _, hr, hk => exact sn_static C hI hcl hmon hrm hn0 hu0 hk hr ih
    | .invokevirtual _, hr, hk => exact sn_virtual C hI hcl hmon hrm hn0 hu0 hk hr ih
    | .invokespecial _, hr, hk => exact sn_special C hI hcl hmon hrm hn0 hu0 hk hr ih
    | .ireturn, hr, hk =>
      have ht := chk_last hk rfl
      unfold stp at hr
      dsimp only at hr
      split at hr
      · obtain ⟨hf, hr⟩ := gd_some hr
        cases hr
        simp only [chkT, Bool.and_eq_true, decide_eq_true_eq] at ht
        obtain ⟨⟨hd, hlk⟩, hin⟩ := ht
        obtain ⟨p, l, e, R, s, m, args, below, meth, c, Q⟩ := X
        intro H locs lsA hR hS hL
        refine hro H locs lsA pc hR hS ⟨hd, ?_, hin⟩
        cases hlk
        exact hf
      · exact absurd hr.symm (Option.some_ne_none _)
    | .lreturn, hr, hk =>
      have ht := chk_last hk rfl
      unfold stp at hr
      dsimp only at hr
      split at hr
      · cases hr
        simp only [chkT, Bool.and_eq_true, decide_eq_true_eq] at ht
        obtain ⟨p, l, e, R, s, m, args, below, meth, c, Q⟩ := X
        intro H locs lsA hR hS hL
        exact hro H locs lsA pc hR hS ht
      · exact absurd hr.symm (Option.some_ne_none _)
    | .areturn, hr, hk =>
      have ht := chk_last hk rfl
      unfold stp at hr
      dsimp only at hr
      split at hr
      · cases hr
        simp only [chkT, Bool.and_eq_true, decide_eq_true_eq] at ht
        obtain ⟨p, l, e, R, s, m, args, below, meth, c, Q⟩ := X
        intro H locs lsA hR hS hL
        exact hro H locs lsA pc hR hS ht
      · exact absurd hr.symm (Option.some_ne_none _)
    | .return_, hr, hk =>
      have ht := chk_last hk rfl
      unfold stp at hr
      dsimp only at hr
      split at hr
      · cases hr
        simp only [chkT, Bool.and_eq_true, decide_eq_true_eq] at ht
        obtain ⟨p, l, e, R, s, m, args, below, meth, c, Q⟩ := X
        intro H locs lsA hR hS hL
        exact hro H locs lsA pc hR hS ht
      · exact absurd hr.symm (Option.some_ne_none _)
    | .athrow, hr, hk => exact absurd (show (none : Rs) = some r from hr).symm (Option.some_ne_none _)
    | .caload, hr, hk => exact absurd (show (none : Rs) = some r from hr).symm (Option.some_ne_none _)
    | .castore, hr, hk => exact absurd (show (none : Rs) = some r from hr).symm (Option.some_ne_none _)
    | .checkcast _, hr, hk => exact absurd (show (none : Rs) = some r from hr).symm (Option.some_ne_none _)
    | .d2f, hr, hk => exact absurd (show (none : Rs) = some r from hr).symm (Option.some_ne_none _)
    | .d2i, hr, hk => exact absurd (show (none : Rs) = some r from hr).symm (Option.some_ne_none _)
    | .d2l, hr, hk => exact absurd (show (none : Rs) = some r from hr).symm (Option.some_ne_none _)
    | .dadd, hr, hk => exact absurd (show (none : Rs) = some r from hr).symm (Option.some_ne_none _)
    | .daload, hr, hk => exact absurd (show (none : Rs) = some r from hr).symm (Option.some_ne_none _)
    | .dastore, hr, hk => exact absurd (show (none : Rs) = some r from hr).symm (Option.some_ne_none _)
    | .dcmp _, hr, hk => exact absurd (show (none : Rs) = some r from hr).symm (Option.some_ne_none _)
    | .dconst _, hr, hk => exact absurd (show (none : Rs) = some r from hr).symm (Option.some_ne_none _)
    | .ddiv, hr, hk => exact absurd (show (none : Rs) = some r from hr).symm (Option.some_ne_none _)
    | .dload _, hr, hk => exact absurd (show (none : Rs) = some r from hr).symm (Option.some_ne_none _)
    | .dload_n _, hr, hk => exact absurd (show (none : Rs) = some r from hr).symm (Option.some_ne_none _)
    | .dmul, hr, hk => exact absurd (show (none : Rs) = some r from hr).symm (Option.some_ne_none _)
    | .dneg, hr, hk => exact absurd (show (none : Rs) = some r from hr).symm (Option.some_ne_none _)
    | .drem, hr, hk => exact absurd (show (none : Rs) = some r from hr).symm (Option.some_ne_none _)
    | .dreturn, hr, hk => exact absurd (show (none : Rs) = some r from hr).symm (Option.some_ne_none _)
    | .dstore _, hr, hk => exact absurd (show (none : Rs) = some r from hr).symm (Option.some_ne_none _)
    | .dstore_n _, hr, hk => exact absurd (show (none : Rs) = some r from hr).symm (Option.some_ne_none _)
    | .dsub, hr, hk => exact absurd (show (none : Rs) = some r from hr).symm (Option.some_ne_none _)
    | .dup_x1, hr, hk => exact absurd (show (none : Rs) = some r from hr).symm (Option.some_ne_none _)
    | .dup_x2, hr, hk => exact absurd (show (none : Rs) = some r from hr).symm (Option.some_ne_none _)
    | .dup2_x1, hr, hk => exact absurd (show (none : Rs) = some r from hr).symm (Option.some_ne_none _)
    | .dup2_x2, hr, hk => exact absurd (show (none : Rs) = some r from hr).symm (Option.some_ne_none _)
    | .f2d, hr, hk => exact absurd (show (none : Rs) = some r from hr).symm (Option.some_ne_none _)
    | .f2i, hr, hk => exact absurd (show (none : Rs) = some r from hr).symm (Option.some_ne_none _)
    | .f2l, hr, hk => exact absurd (show (none : Rs) = some r from hr).symm (Option.some_ne_none _)
    | .fadd, hr, hk => exact absurd (show (none : Rs) = some r from hr).symm (Option.some_ne_none _)
    | .faload, hr, hk => exact absurd (show (none : Rs) = some r from hr).symm (Option.some_ne_none _)
    | .fastore, hr, hk => exact absurd (show (none : Rs) = some r from hr).symm (Option.some_ne_none _)
    | .fcmp _, hr, hk => exact absurd (show (none : Rs) = some r from hr).symm (Option.some_ne_none _)
    | .fconst _, hr, hk => exact absurd (show (none : Rs) = some r from hr).symm (Option.some_ne_none _)
    | .fdiv, hr, hk => exact absurd (show (none : Rs) = some r from hr).symm (Option.some_ne_none _)
    | .fload _, hr, hk => exact absurd (show (none : Rs) = some r from hr).symm (Option.some_ne_none _)
    | .fload_n _, hr, hk => exact absurd (show (none : Rs) = some r from hr).symm (Option.some_ne_none _)
    | .fmul, hr, hk => exact absurd (show (none : Rs) = some r from hr).symm (Option.some_ne_none _)
    | .fneg, hr, hk => exact absurd (show (none : Rs) = some r from hr).symm (Option.some_ne_none _)
    | .frem, hr, hk => exact absurd (show (none : Rs) = some r from hr).symm (Option.some_ne_none _)
    | .freturn, hr, hk => exact absurd (show (none : Rs) = some r from hr).symm (Option.some_ne_none _)
    | .fstore _, hr, hk => exact absurd (show (none : Rs) = some r from hr).symm (Option.some_ne_none _)
    | .fstore_n _, hr, hk => exact absurd (show (none : Rs) = some r from hr).symm (Option.some_ne_none _)
    | .fsub, hr, hk => exact absurd (show (none : Rs) = some r from hr).symm (Option.some_ne_none _)
    | .goto_w _, hr, hk => exact absurd (show (none : Rs) = some r from hr).symm (Option.some_ne_none _)
    | .i2d, hr, hk => exact absurd (show (none : Rs) = some r from hr).symm (Option.some_ne_none _)
    | .i2f, hr, hk => exact absurd (show (none : Rs) = some r from hr).symm (Option.some_ne_none _)
    | .i2s, hr, hk => exact absurd (show (none : Rs) = some r from hr).symm (Option.some_ne_none _)
    | .if_acmp _ _, hr, hk => exact absurd (show (none : Rs) = some r from hr).symm (Option.some_ne_none _)
    | .instanceof _, hr, hk => exact absurd (show (none : Rs) = some r from hr).symm (Option.some_ne_none _)
    | .invokedynamic _, hr, hk => exact absurd (show (none : Rs) = some r from hr).symm (Option.some_ne_none _)
    | .invokeinterface _ _, hr, hk => exact absurd (show (none : Rs) = some r from hr).symm (Option.some_ne_none _)
    | .iushr, hr, hk => exact absurd (show (none : Rs) = some r from hr).symm (Option.some_ne_none _)
    | .jsr _, hr, hk => exact absurd (show (none : Rs) = some r from hr).symm (Option.some_ne_none _)
    | .jsr_w _, hr, hk => exact absurd (show (none : Rs) = some r from hr).symm (Option.some_ne_none _)
    | .l2d, hr, hk => exact absurd (show (none : Rs) = some r from hr).symm (Option.some_ne_none _)
    | .l2f, hr, hk => exact absurd (show (none : Rs) = some r from hr).symm (Option.some_ne_none _)
    | .laload, hr, hk => exact absurd (show (none : Rs) = some r from hr).symm (Option.some_ne_none _)
    | .lastore, hr, hk => exact absurd (show (none : Rs) = some r from hr).symm (Option.some_ne_none _)
    | .ldiv, hr, hk => exact absurd (show (none : Rs) = some r from hr).symm (Option.some_ne_none _)
    | .lneg, hr, hk => exact absurd (show (none : Rs) = some r from hr).symm (Option.some_ne_none _)
    | .lrem, hr, hk => exact absurd (show (none : Rs) = some r from hr).symm (Option.some_ne_none _)
    | .lushr, hr, hk => exact absurd (show (none : Rs) = some r from hr).symm (Option.some_ne_none _)
    | .monitorenter, hr, hk => exact absurd (show (none : Rs) = some r from hr).symm (Option.some_ne_none _)
    | .monitorexit, hr, hk => exact absurd (show (none : Rs) = some r from hr).symm (Option.some_ne_none _)
    | .multianewarray _ _, hr, hk => exact absurd (show (none : Rs) = some r from hr).symm (Option.some_ne_none _)
    | .pop2, hr, hk => exact absurd (show (none : Rs) = some r from hr).symm (Option.some_ne_none _)
    | .putstatic _, hr, hk => exact absurd (show (none : Rs) = some r from hr).symm (Option.some_ne_none _)
    | .ret _, hr, hk => exact absurd (show (none : Rs) = some r from hr).symm (Option.some_ne_none _)
    | .saload, hr, hk => exact absurd (show (none : Rs) = some r from hr).symm (Option.some_ne_none _)
    | .sastore, hr, hk => exact absurd (show (none : Rs) = some r from hr).symm (Option.some_ne_none _)
    | .swap, hr, hk => exact absurd (show (none : Rs) = some r from hr).symm (Option.some_ne_none _)
