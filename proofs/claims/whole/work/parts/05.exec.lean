/-! THE SMALL MACHINE, 2: its steps -/
def lt5 : List AV → Bool
  | [] => true
  | [_] => true
  | [_, _] => true
  | [_, _, _] => true
  | [_, _, _, _] => true
  | _ => false
def icmp (c : ClassFile.Cond) (x y : Int32) : Bool := match c with
  | .eq => decide (x = y)
  | .ne => decide (¬ x = y)
  | .lt => decide (x < y)
  | .ge => decide (x ≥ y)
  | .gt => decide (x > y)
  | .le => decide (x ≤ y)
/-- a switch by pairs: the place of the first that is equal -/
def swix : List (Int × Int) → List Nat → Nat → Int → Nat
  | (a, _) :: ps, b :: bs, d, x => if x = a then b else swix ps bs d x
  | _, _, d, _ => d
noncomputable def ex : Nat → Nat → Nat → List Op → LV → List AV → Hp → Rs
  | 0, _, _, _, _, _, _ => none
  | _ + 1, _, _, [], _, _, _ => none
  | n + 1, d, m, (_, i, lk, z) :: ops, ls, st, h =>
    match i with
    | .nop => (match lk with | [b] => ex n d m (blk m b) ls st h | _ => none)
    | .goto _ => (match lk with | [b] => ex n d m (blk m b) ls st h | _ => none)
    | .iconst v => ex n d m ops ls (.inl (Int32.ofInt v) :: st) h
    | .bipush v => ex n d m ops ls (.inl (Int8.ofInt v).toInt32 :: st) h
    | .sipush v => ex n d m ops ls (.inl (Int16.ofInt v).toInt32 :: st) h
    | .lconst v => ex n d m ops ls (.inr (.inl (Int64.ofNat v)) :: st) h
    | .aconst_null => ex n d m ops ls (.inr (.inr none) :: st) h
    | .ldc _ => (match lk with
      | [0, _] => ex n d m ops ls (.inl (Int32.ofInt z) :: st) h
      | [1, a, _] => ex n d m ops ls (.inr (.inr (some a)) :: st) h
      | _ => none)
    | .ldc_w _ => (match lk with
      | [0, _] => ex n d m ops ls (.inl (Int32.ofInt z) :: st) h
      | _ => none)
    | .ldc2_w _ => (match lk with
      | [_] => ex n d m ops ls (.inr (.inl (Int64.ofInt z)) :: st) h
      | _ => none)
    | .iload_n k => (match lget ls k with | some (.inl x) => ex n d m ops ls (.inl x :: st) h | _ => none)
    | .iload k => (match lget ls k with | some (.inl x) => ex n d m ops ls (.inl x :: st) h | _ => none)
    | .lload_n k => (match lget ls k with | some (.inr (.inl x)) => ex n d m ops ls (.inr (.inl x) :: st) h | _ => none)
    | .lload k => (match lget ls k with | some (.inr (.inl x)) => ex n d m ops ls (.inr (.inl x) :: st) h | _ => none)
    | .aload_n k => (match lget ls k with | some (.inr (.inr x)) => ex n d m ops ls (.inr (.inr x) :: st) h | _ => none)
    | .aload k => (match lget ls k with | some (.inr (.inr x)) => ex n d m ops ls (.inr (.inr x) :: st) h | _ => none)
    | .istore_n k => (match st with | .inl x :: st => ex n d m ops (lset ls k (.inl x)) st h | _ => none)
    | .istore k => (match st with | .inl x :: st => ex n d m ops (lset ls k (.inl x)) st h | _ => none)
    | .lstore_n k => (match st with | .inr (.inl x) :: st => ex n d m ops (lsetJ ls k x) st h | _ => none)
    | .lstore k => (match st with | .inr (.inl x) :: st => ex n d m ops (lsetJ ls k x) st h | _ => none)
    | .astore_n k => (match st with | .inr (.inr x) :: st => ex n d m ops (lset ls k (.inr (.inr x))) st h | _ => none)
    | .astore k => (match st with | .inr (.inr x) :: st => ex n d m ops (lset ls k (.inr (.inr x))) st h | _ => none)
    | .iinc k v => (match lget ls k with | some (.inl x) => ex n d m ops (lset ls k (.inl (x + Int32.ofInt v))) st h | _ => none)
    | .iadd => (match st with | .inl y :: .inl x :: st => ex n d m ops ls (.inl (x + y) :: st) h | _ => none)
    | .isub => (match st with | .inl y :: .inl x :: st => ex n d m ops ls (.inl (x - y) :: st) h | _ => none)
    | .imul => (match st with | .inl y :: .inl x :: st => ex n d m ops ls (.inl (x * y) :: st) h | _ => none)
    | .iand => (match st with | .inl y :: .inl x :: st => ex n d m ops ls (.inl (x &&& y) :: st) h | _ => none)
    | .ior => (match st with | .inl y :: .inl x :: st => ex n d m ops ls (.inl (x ||| y) :: st) h | _ => none)
    | .ixor => (match st with | .inl y :: .inl x :: st => ex n d m ops ls (.inl (x ^^^ y) :: st) h | _ => none)
    | .ishl => (match st with | .inl y :: .inl x :: st => ex n d m ops ls (.inl (x <<< (y &&& 31)) :: st) h | _ => none)
    | .ishr => (match st with | .inl y :: .inl x :: st => ex n d m ops ls (.inl (x >>> (y &&& 31)) :: st) h | _ => none)
    | .idiv => (match st with | .inl y :: .inl x :: st => if y = 0 then none else ex n d m ops ls (.inl (x / y) :: st) h | _ => none)
    | .irem => (match st with | .inl y :: .inl x :: st => if y = 0 then none else ex n d m ops ls (.inl (x - x / y * y) :: st) h | _ => none)
    | .ineg => (match st with | .inl x :: st => ex n d m ops ls (.inl (-x) :: st) h | _ => none)
    | .ladd => (match st with | .inr (.inl y) :: .inr (.inl x) :: st => ex n d m ops ls (.inr (.inl (x + y)) :: st) h | _ => none)
    | .lsub => (match st with | .inr (.inl y) :: .inr (.inl x) :: st => ex n d m ops ls (.inr (.inl (x - y)) :: st) h | _ => none)
    | .lmul => (match st with | .inr (.inl y) :: .inr (.inl x) :: st => ex n d m ops ls (.inr (.inl (x * y)) :: st) h | _ => none)
    | .land => (match st with | .inr (.inl y) :: .inr (.inl x) :: st => ex n d m ops ls (.inr (.inl (x &&& y)) :: st) h | _ => none)
    | .lor => (match st with | .inr (.inl y) :: .inr (.inl x) :: st => ex n d m ops ls (.inr (.inl (x ||| y)) :: st) h | _ => none)
    | .lxor => (match st with | .inr (.inl y) :: .inr (.inl x) :: st => ex n d m ops ls (.inr (.inl (x ^^^ y)) :: st) h | _ => none)
    | .lshl => (match st with | .inl y :: .inr (.inl x) :: st => ex n d m ops ls (.inr (.inl (x <<< (y.toInt64 &&& 63))) :: st) h | _ => none)
    | .lshr => (match st with | .inl y :: .inr (.inl x) :: st => ex n d m ops ls (.inr (.inl (x >>> (y.toInt64 &&& 63))) :: st) h | _ => none)
    | .lcmp => (match st with | .inr (.inl y) :: .inr (.inl x) :: st => ex n d m ops ls (.inl (lg_cmp x y) :: st) h | _ => none)
    | .i2l => (match st with | .inl x :: st => ex n d m ops ls (.inr (.inl x.toInt64) :: st) h | _ => none)
    | .l2i => (match st with | .inr (.inl x) :: st => ex n d m ops ls (.inl x.toInt32 :: st) h | _ => none)
    | .i2b => (match st with | .inl x :: st => ex n d m ops ls (.inl x.toInt8.toInt32 :: st) h | _ => none)
    | .i2c => (match st with | .inl x :: st => ex n d m ops ls (.inl (x.toUInt32 % 65536).toInt32 :: st) h | _ => none)
    | .dup => (match st with | .inl x :: st => ex n d m ops ls (.inl x :: .inl x :: st) h | .inr (.inr x) :: st => ex n d m ops ls (.inr (.inr x) :: .inr (.inr x) :: st) h | _ => none)
    | .pop => (match st with | .inl _ :: st => ex n d m ops ls st h | .inr (.inr _) :: st => ex n d m ops ls st h | _ => none)
    | .dup2 => (match st with | .inl y :: .inr (.inr x) :: st => ex n d m ops ls (.inl y :: .inr (.inr x) :: .inl y :: .inr (.inr x) :: st) h | _ => none)
    | .ifCond c _ => (match lk, st with | [b], .inl x :: st => if icmp c x 0 = true then ex n d m (blk m b) ls st h else ex n d m ops ls st h | _, _ => none)
    | .if_icmp c _ => (match lk, st with | [b], .inl y :: .inl x :: st => if icmp c x y = true then ex n d m (blk m b) ls st h else ex n d m ops ls st h | _, _ => none)
    | .ifnull _ => (match lk, st with | [b], .inr (.inr r) :: st => if r = none then ex n d m (blk m b) ls st h else ex n d m ops ls st h | _, _ => none)
    | .ifnonnull _ => (match lk, st with | [b], .inr (.inr r) :: st => if r = none then ex n d m ops ls st h else ex n d m (blk m b) ls st h | _, _ => none)
    | .tableswitch _ lo hi _ => (match lk, st with | dfl :: bs, .inl x :: st => if x.toInt < lo ∨ hi < x.toInt then ex n d m (blk m dfl) ls st h else ex n d m (blk m (bs.getD (x.toInt - lo).toNat 0)) ls st h | _, _ => none)
    | .lookupswitch _ ps => (match lk, st with | dfl :: bs, .inl x :: st => ex n d m (blk m (swix ps.toList bs dfl x.toInt)) ls st h | _, _ => none)
    | .getfield _ => (match lk, st with
      | [k, c, t, _], .inr (.inr (some a)) :: st => if hS h a = (c, 0) then (if t = 2 then ex n d m ops ls (.inr (.inr (hG h k a)) :: st) h else ex n d m ops ls (.inl (hF h k a) :: st) h) else none
      | _, _ => none)
    | .putfield _ => (match lk, st with
      | [k, c, t, _], .inl v :: .inr (.inr (some a)) :: st => cif (hS h a = (c, 0) ∧ fitT t v) (ex n d m ops ls st (sF h k a v)) none
      | [k, c, 2, _], .inr (.inr r) :: .inr (.inr (some a)) :: st => if hS h a = (c, 0) then ex n d m ops ls st (sG h k a r) else none
      | _, _ => none)
    | .getstatic _ => (match lk with
      | [k, t, _, _] => if t = 2 then ex n d m ops ls (.inr (.inr (hG h k 0)) :: st) h else ex n d m ops ls (.inl (hF h k 0) :: st) h
      | _ => none)
    | .iaload => (match st with
      | .inl i :: .inr (.inr (some a)) :: st => cif (ki (hS h a).1 = true ∧ inb i (hS h a).2) (ex n d m ops ls (.inl (hE h a i.toNatClampNeg) :: st) h) none
      | _ => none)
    | .baload => (match st with
      | .inl i :: .inr (.inr (some a)) :: st => cif (kb (hS h a).1 = true ∧ inb i (hS h a).2) (ex n d m ops ls (.inl (hE h a i.toNatClampNeg) :: st) h) none
      | _ => none)
    | .aaload => (match st with
      | .inl i :: .inr (.inr (some a)) :: st => cif (kq (hS h a).1 = true ∧ inb i (hS h a).2) (ex n d m ops ls (.inr (.inr (hQ h a i.toNatClampNeg)) :: st) h) none
      | _ => none)
    | .iastore => (match st with
      | .inl v :: .inl i :: .inr (.inr (some a)) :: st => cif ((hS h a).1 = 100 ∧ inb i (hS h a).2) (ex n d m ops ls st (sE h a i.toNatClampNeg v)) none
      | _ => none)
    | .bastore => (match st with
      | .inl v :: .inl i :: .inr (.inr (some a)) :: st => cif ((hS h a).1 = 101 ∧ inb i (hS h a).2 ∧ (v = 0 ∨ v = 1)) (ex n d m ops ls st (sE h a i.toNatClampNeg v)) none
      | _ => none)
    | .aastore => (match st with
      | .inr (.inr (some b)) :: .inl i :: .inr (.inr (some a)) :: st => cif (kq (hS h a).1 = true ∧ hS h b = ((hS h a).1 - 300, 0) ∧ inb i (hS h a).2) (ex n d m ops ls st (sQ h a i.toNatClampNeg (some b))) none
      | _ => none)
    | .arraylength => (match st with
      | .inr (.inr (some a)) :: st => if ka (hS h a).1 = true then ex n d m ops ls (.inl (Int32.ofNat (hS h a).2) :: st) h else none
      | _ => none)
    | .new _ => (match lk with
      | [c, k, _] => ex n d m ops ls (.inr (.inr (some (hN h))) :: st) (nw h c 0 k)
      | _ => none)
    | .newarray _ => (match lk, st with
      | [k], .inl v :: st => cif (0 ≤ v.toInt ∧ v.toInt ≤ 100000) (ex n d m ops ls (.inr (.inr (some (hN h))) :: st) (nw h k v.toNatClampNeg v.toNatClampNeg)) none
      | _, _ => none)
    | .anewarray _ => (match lk, st with
      | [k, _], .inl v :: st => cif (0 ≤ v.toInt ∧ v.toInt ≤ 100000) (ex n d m ops ls (.inr (.inr (some (hN h))) :: st) (nw h k v.toNatClampNeg v.toNatClampNeg)) none
      | _, _ => none)
    | .invokestatic _ => (match lk with
      | [_, _] => (match st with
        | .inl k :: .inl dp :: .inr (.inr (some b)) :: .inl sp :: .inr (.inr (some a)) :: st => cif ((hS h a).1 = 100 ∧ (hS h b).1 = 100 ∧ a ≠ b ∧ 0 ≤ sp.toInt ∧ 0 ≤ dp.toInt ∧ 0 ≤ k.toInt ∧ sp.toNatClampNeg + k.toNatClampNeg ≤ (hS h a).2 ∧ dp.toNatClampNeg + k.toNatClampNeg ≤ (hS h b).2 ∧ lt5 st = true ∧ 1 ≤ d) (ex n d m ops ls st (cpE h a sp.toNatClampNeg b dp.toNatClampNeg k.toNatClampNeg)) none
        | _ => none)
      | [y, k, _, _, _] => (match d with
        | 0 => none
        | d' + 1 => if k ≤ st.length ∧ lt5 (st.drop k) = true then (match ex n d' y (blk y 0) (en (mxl y) (st.take k).reverse) [] h with
          | some (r, h') => ex n (d' + 1) m ops ls (psh r (st.drop k)) h'
          | none => none) else none)
      | _ => none)
    | .invokevirtual _ => (match lk with
      | [y, k, c, _, _] => (match d, st.drop (k - 1) with
        | d' + 1, .inr (.inr (some a)) :: rest => if 0 < k ∧ hS h a = (c, 0) ∧ lt5 rest = true then (match ex n d' y (blk y 0) (en (mxl y) (.inr (.inr (some a)) :: (st.take (k - 1)).reverse)) [] h with
          | some (r, h') => ex n (d' + 1) m ops ls (psh r rest) h'
          | none => none) else none
        | _, _ => none)
      | _ => none)
    | .invokespecial _ => (match lk with
      | [_, _] => (match d, st with
        | _ + 1, .inr (.inr (some _)) :: st => if lt5 st = true then ex n d m ops ls st h else none
        | _, _ => none)
      | [y, k, c, _, _] => (match d, st.drop (k - 1) with
        | d' + 1, .inr (.inr (some a)) :: rest => if 0 < k ∧ hS h a = (c, 0) ∧ lt5 rest = true then (match ex n d' y (blk y 0) (en (mxl y) (.inr (.inr (some a)) :: (st.take (k - 1)).reverse)) [] h with
          | some (r, h') => ex n (d' + 1) m ops ls (psh r rest) h'
          | none => none) else none
        | _, _ => none)
      | _ => none)
    | .ireturn => (match lk, st with | [t], [.inl x] => cif (fitT t x) (some (some (.inl x), h)) none | _, _ => none)
    | .lreturn => (match st with | [.inr (.inl x)] => some (some (.inr (.inl x)), h) | _ => none)
    | .areturn => (match st with | [.inr (.inr x)] => some (some (.inr (.inr x)), h) | _ => none)
    | .return_ => (match st with | [] => some (none, h) | _ => none)
    | _ => none
