/-! THE SMALL MACHINE, 2: its steps -/
def lt5 : List AV → Bool
  | [] => true
  | [_] => true
  | [_, _] => true
  | [_, _, _] => true
  | [_, _, _, _] => true
  | _ => false
def icmp (c : ClassFile.Cond) (x y : Int32) : Bool := match c with
  | .eq => decide (x = y)
  | .ne => decide (¬ x = y)
  | .lt => decide (x < y)
  | .ge => decide (x ≥ y)
  | .gt => decide (x > y)
  | .le => decide (x ≤ y)
/-- a switch by pairs: the place of the first that is equal -/
def swix : List (Int × Int) → List Nat → Nat → Int → Nat
  | (a, _) :: ps, b :: bs, d, x => if x = a then b else swix ps bs d x
  | _, _, d, _ => d
noncomputable def gd (c : Prop) (x : Rs) : Rs := @ite Rs c (Classical.propDecidable c) x none
theorem gd_t {c : Prop} {x : Rs} (h : c) : gd c x = x := by unfold gd; exact if_pos h
theorem gd_some {c : Prop} {x : Rs} {r : Option AV × Hp} (h : gd c x = some r) : c ∧ x = some r := by
  unfold gd at h
  by_cases hc : c
  · rw [if_pos hc] at h; exact ⟨hc, h⟩
  · rw [if_neg hc] at h; cases h
/-- one instruction: cl is what a call answers, k how the run goes on -/
noncomputable def stp (cl : Nat → List AV → Hp → Rs) (k : List Op → LV → List AV → Hp → Rs) (d m : Nat) (i : Instr) (lk : List Nat) (z : Int) (ops : List Op) (ls : LV) (st : List AV) (h : Hp) : Rs :=
    match i with
    | .nop => (match lk with | [b] => k (blk m b) ls st h | _ => none)
    | .goto _ => (match lk with | [b] => k (blk m b) ls st h | _ => none)
    | .iconst v => k ops ls (.inl (Int32.ofInt v) :: st) h
    | .bipush v => k ops ls (.inl (Int8.ofInt v).toInt32 :: st) h
    | .sipush v => k ops ls (.inl (Int16.ofInt v).toInt32 :: st) h
    | .lconst v => k ops ls (.inr (.inl (Int64.ofNat v)) :: st) h
    | .aconst_null => k ops ls (.inr (.inr none) :: st) h
    | .ldc _ => (match lk with
      | [0, _] => k ops ls (.inl (Int32.ofInt z) :: st) h
      | [1, a, _] => k ops ls (.inr (.inr (some a)) :: st) h
      | _ => none)
    | .ldc_w _ => (match lk with | [0, _] => k ops ls (.inl (Int32.ofInt z) :: st) h | _ => none)
    | .ldc2_w _ => (match lk with | [_] => k ops ls (.inr (.inl (Int64.ofInt z)) :: st) h | _ => none)
    | .iload_n j => (match lget ls j with | some (.inl x) => k ops ls (.inl x :: st) h | _ => none)
    | .iload j => (match lget ls j with | some (.inl x) => k ops ls (.inl x :: st) h | _ => none)
    | .lload_n j => (match lget ls j with | some (.inr (.inl x)) => k ops ls (.inr (.inl x) :: st) h | _ => none)
    | .lload j => (match lget ls j with | some (.inr (.inl x)) => k ops ls (.inr (.inl x) :: st) h | _ => none)
    | .aload_n j => (match lget ls j with | some (.inr (.inr x)) => k ops ls (.inr (.inr x) :: st) h | _ => none)
    | .aload j => (match lget ls j with | some (.inr (.inr x)) => k ops ls (.inr (.inr x) :: st) h | _ => none)
    | .istore_n j => (match st with | .inl x :: st => k ops (lset ls j (.inl x)) st h | _ => none)
    | .istore j => (match st with | .inl x :: st => k ops (lset ls j (.inl x)) st h | _ => none)
    | .lstore_n j => (match st with | .inr (.inl x) :: st => k ops (lsetJ ls j x) st h | _ => none)
    | .lstore j => (match st with | .inr (.inl x) :: st => k ops (lsetJ ls j x) st h | _ => none)
    | .astore_n j => (match st with | .inr (.inr x) :: st => k ops (lset ls j (.inr (.inr x))) st h | _ => none)
    | .astore j => (match st with | .inr (.inr x) :: st => k ops (lset ls j (.inr (.inr x))) st h | _ => none)
    | .iinc j v => (match lget ls j with | some (.inl x) => k ops (lset ls j (.inl (x + Int32.ofInt v))) st h | _ => none)
    | .iadd => (match st with | .inl y :: .inl x :: st => k ops ls (.inl (x + y) :: st) h | _ => none)
    | .isub => (match st with | .inl y :: .inl x :: st => k ops ls (.inl (x - y) :: st) h | _ => none)
    | .imul => (match st with | .inl y :: .inl x :: st => k ops ls (.inl (x * y) :: st) h | _ => none)
    | .iand => (match st with | .inl y :: .inl x :: st => k ops ls (.inl (x &&& y) :: st) h | _ => none)
    | .ior => (match st with | .inl y :: .inl x :: st => k ops ls (.inl (x ||| y) :: st) h | _ => none)
    | .ixor => (match st with | .inl y :: .inl x :: st => k ops ls (.inl (x ^^^ y) :: st) h | _ => none)
    | .ishl => (match st with | .inl y :: .inl x :: st => k ops ls (.inl (x <<< (y &&& 31)) :: st) h | _ => none)
    | .ishr => (match st with | .inl y :: .inl x :: st => k ops ls (.inl (x >>> (y &&& 31)) :: st) h | _ => none)
    | .idiv => (match st with | .inl y :: .inl x :: st => gd (¬ y = 0) (k ops ls (.inl (x / y) :: st) h) | _ => none)
    | .irem => (match st with | .inl y :: .inl x :: st => gd (¬ y = 0) (k ops ls (.inl (x - x / y * y) :: st) h) | _ => none)
    | .ineg => (match st with | .inl x :: st => k ops ls (.inl (-x) :: st) h | _ => none)
    | .ladd => (match st with | .inr (.inl y) :: .inr (.inl x) :: st => k ops ls (.inr (.inl (x + y)) :: st) h | _ => none)
    | .lsub => (match st with | .inr (.inl y) :: .inr (.inl x) :: st => k ops ls (.inr (.inl (x - y)) :: st) h | _ => none)
    | .lmul => (match st with | .inr (.inl y) :: .inr (.inl x) :: st => k ops ls (.inr (.inl (x * y)) :: st) h | _ => none)
    | .land => (match st with | .inr (.inl y) :: .inr (.inl x) :: st => k ops ls (.inr (.inl (x &&& y)) :: st) h | _ => none)
    | .lor => (match st with | .inr (.inl y) :: .inr (.inl x) :: st => k ops ls (.inr (.inl (x ||| y)) :: st) h | _ => none)
    | .lxor => (match st with | .inr (.inl y) :: .inr (.inl x) :: st => k ops ls (.inr (.inl (x ^^^ y)) :: st) h | _ => none)
    | .lshl => (match st with | .inl y :: .inr (.inl x) :: st => k ops ls (.inr (.inl (x <<< (y.toInt64 &&& 63))) :: st) h | _ => none)
    | .lshr => (match st with | .inl y :: .inr (.inl x) :: st => k ops ls (.inr (.inl (x >>> (y.toInt64 &&& 63))) :: st) h | _ => none)
    | .lcmp => (match st with | .inr (.inl y) :: .inr (.inl x) :: st => k ops ls (.inl (lg_cmp x y) :: st) h | _ => none)
    | .i2l => (match st with | .inl x :: st => k ops ls (.inr (.inl x.toInt64) :: st) h | _ => none)
    | .l2i => (match st with | .inr (.inl x) :: st => k ops ls (.inl x.toInt32 :: st) h | _ => none)
    | .i2b => (match st with | .inl x :: st => k ops ls (.inl x.toInt8.toInt32 :: st) h | _ => none)
    | .i2c => (match st with | .inl x :: st => k ops ls (.inl (x.toUInt32 % 65536).toInt32 :: st) h | _ => none)
    | .dup => (match st with | .inl x :: st => k ops ls (.inl x :: .inl x :: st) h | .inr (.inr x) :: st => k ops ls (.inr (.inr x) :: .inr (.inr x) :: st) h | _ => none)
    | .pop => (match st with | .inl _ :: st => k ops ls st h | .inr (.inr _) :: st => k ops ls st h | _ => none)
    | .dup2 => (match st with | .inl y :: .inr (.inr x) :: st => k ops ls (.inl y :: .inr (.inr x) :: .inl y :: .inr (.inr x) :: st) h | _ => none)
    | .ifCond c _ => (match lk, st with | [b], .inl x :: st => k (if icmp c x 0 = true then blk m b else ops) ls st h | _, _ => none)
    | .if_icmp c _ => (match lk, st with | [b], .inl y :: .inl x :: st => k (if icmp c x y = true then blk m b else ops) ls st h | _, _ => none)
    | .ifnull _ => (match lk, st with | [b], .inr (.inr r) :: st => k (if r = none then blk m b else ops) ls st h | _, _ => none)
    | .ifnonnull _ => (match lk, st with | [b], .inr (.inr r) :: st => k (if r = none then ops else blk m b) ls st h | _, _ => none)
    | .tableswitch _ lo hi _ => (match lk, st with | dfl :: bs, .inl x :: st => k (blk m (if x.toInt < lo ∨ hi < x.toInt then dfl else bs.getD (x.toInt - lo).toNat 0)) ls st h | _, _ => none)
    | .lookupswitch _ ps => (match lk, st with | dfl :: bs, .inl x :: st => k (blk m (swix ps.toList bs dfl x.toInt)) ls st h | _, _ => none)
    | .getfield _ => (match lk, st with
      | [f, c, t, _], .inr (.inr (some a)) :: st => gd (hS h a = (c, 0)) (k ops ls ((if t = 2 then .inr (.inr (hG h f a)) else .inl (hF h f a)) :: st) h)
      | _, _ => none)
    | .putfield _ => (match lk, st with
      | [f, c, t, _], .inl v :: .inr (.inr (some a)) :: st => gd (hS h a = (c, 0) ∧ fitT t v) (k ops ls st (sF h f a v))
      | [f, c, t, _], .inr (.inr r) :: .inr (.inr (some a)) :: st => gd (hS h a = (c, 0) ∧ t = 2) (k ops ls st (sG h f a r))
      | _, _ => none)
    | .getstatic _ => (match lk with
      | [f, t, _, _] => k ops ls ((if t = 2 then .inr (.inr (hG h f 0)) else .inl (hF h f 0)) :: st) h
      | _ => none)
    | .iaload => (match st with
      | .inl i :: .inr (.inr (some a)) :: st => gd (ki (hS h a).1 = true ∧ inb i (hS h a).2) (k ops ls (.inl (hE h a i.toNatClampNeg) :: st) h)
      | _ => none)
    | .baload => (match st with
      | .inl i :: .inr (.inr (some a)) :: st => gd (kb (hS h a).1 = true ∧ inb i (hS h a).2) (k ops ls (.inl (hE h a i.toNatClampNeg) :: st) h)
      | _ => none)
    | .aaload => (match st with
      | .inl i :: .inr (.inr (some a)) :: st => gd (kq (hS h a).1 = true ∧ inb i (hS h a).2) (k ops ls (.inr (.inr (hQ h a i.toNatClampNeg)) :: st) h)
      | _ => none)
    | .iastore => (match st with
      | .inl v :: .inl i :: .inr (.inr (some a)) :: st => gd ((hS h a).1 = 100 ∧ inb i (hS h a).2) (k ops ls st (sE h a i.toNatClampNeg v))
      | _ => none)
    | .bastore => (match st with
      | .inl v :: .inl i :: .inr (.inr (some a)) :: st => gd ((hS h a).1 = 101 ∧ inb i (hS h a).2 ∧ (v = 0 ∨ v = 1)) (k ops ls st (sE h a i.toNatClampNeg v))
      | _ => none)
    | .aastore => (match st with
      | .inr (.inr (some b)) :: .inl i :: .inr (.inr (some a)) :: st => gd (kq (hS h a).1 = true ∧ hS h b = ((hS h a).1 - 300, 0) ∧ inb i (hS h a).2) (k ops ls st (sQ h a i.toNatClampNeg (some b)))
      | _ => none)
    | .arraylength => (match st with
      | .inr (.inr (some a)) :: st => gd (ka (hS h a).1 = true) (k ops ls (.inl (Int32.ofNat (hS h a).2) :: st) h)
      | _ => none)
    | .new _ => (match lk with
      | [c, j, _] => k ops ls (.inr (.inr (some (hN h))) :: st) (nw h c 0 j)
      | _ => none)
    | .newarray _ => (match lk, st with
      | [j], .inl v :: st => gd (0 ≤ v.toInt ∧ v.toInt ≤ 100000) (k ops ls (.inr (.inr (some (hN h))) :: st) (nw h j v.toNatClampNeg v.toNatClampNeg))
      | _, _ => none)
    | .anewarray _ => (match lk, st with
      | [j, _], .inl v :: st => gd (0 ≤ v.toInt ∧ v.toInt ≤ 100000) (k ops ls (.inr (.inr (some (hN h))) :: st) (nw h j v.toNatClampNeg v.toNatClampNeg))
      | _, _ => none)
    | .invokestatic _ => (match lk with
      | [_, _] => (match st with
        | .inl n :: .inl dp :: .inr (.inr (some b)) :: .inl sp :: .inr (.inr (some a)) :: st => gd ((hS h a).1 = 100 ∧ (hS h b).1 = 100 ∧ a ≠ b ∧ 0 ≤ sp.toInt ∧ 0 ≤ dp.toInt ∧ 0 ≤ n.toInt ∧ sp.toNatClampNeg + n.toNatClampNeg ≤ (hS h a).2 ∧ dp.toNatClampNeg + n.toNatClampNeg ≤ (hS h b).2 ∧ lt5 st = true ∧ 1 ≤ d) (k ops ls st (cpE h a sp.toNatClampNeg b dp.toNatClampNeg n.toNatClampNeg))
        | _ => none)
      | [y, j, _, _, _] => gd (j ≤ st.length ∧ lt5 (st.drop j) = true) ((cl y (st.take j).reverse h).bind fun q => k ops ls (psh q.1 (st.drop j)) q.2)
      | _ => none)
    | .invokevirtual _ => (match lk with
      | [y, j, c, _, _] => (match st.drop (j - 1) with
        | .inr (.inr (some a)) :: rest => gd (0 < j ∧ hS h a = (c, 0) ∧ lt5 rest = true) ((cl y (.inr (.inr (some a)) :: (st.take (j - 1)).reverse) h).bind fun q => k ops ls (psh q.1 rest) q.2)
        | _ => none)
      | _ => none)
    | .invokespecial _ => (match lk with
      | [_, _] => (match st with
        | .inr (.inr (some _)) :: st => gd (lt5 st = true ∧ 1 ≤ d) (k ops ls st h)
        | _ => none)
      | [y, j, c, _, _] => (match st.drop (j - 1) with
        | .inr (.inr (some a)) :: rest => gd (0 < j ∧ hS h a = (c, 0) ∧ lt5 rest = true) ((cl y (.inr (.inr (some a)) :: (st.take (j - 1)).reverse) h).bind fun q => k ops ls (psh q.1 rest) q.2)
        | _ => none)
      | _ => none)
    | .ireturn => (match lk, st with | [t], [.inl x] => gd (fitT t x) (some (some (.inl x), h)) | _, _ => none)
    | .lreturn => (match st with | [.inr (.inl x)] => some (some (.inr (.inl x)), h) | _ => none)
    | .areturn => (match st with | [.inr (.inr x)] => some (some (.inr (.inr x)), h) | _ => none)
    | .return_ => (match st with | [] => some (none, h) | _ => none)
    | _ => none
/-- how many places arguments take -/
def aw : List AV → Nat
  | [] => 0
  | .inr (.inl _) :: l => aw l + 2
  | _ :: l => aw l + 1
/-- where a call begins -/
def eb (y : Nat) (as : List AV) : List Op := if aw as ≤ mxl y then blk y 0 else []
noncomputable def ex : Nat → Nat → Nat → List Op → LV → List AV → Hp → Rs
  | 0, _, _, _, _, _, _ => none
  | n + 1, d, m, ops, ls, st, h => match ops with
    | [] => none
    | (_, i, lk, z) :: ops => stp (fun y as h => match d with | 0 => none | d' + 1 => ex n d' y (eb y as) (en (mxl y) as) [] h) (ex n d m) d m i lk z ops ls st h
