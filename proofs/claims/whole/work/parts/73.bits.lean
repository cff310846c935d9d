/-! BITS of what waits, and of a step -/
theorem l_bv (n : Nat) : (Int64.ofNat n).toBitVec = BitVec.ofNat 64 n := rfl
theorem l_eq {x : Int64} {n : Nat} (h : x.toBitVec.toNat = n) (hn : n < 18446744073709551616) : x = Int64.ofNat n := by
  apply Int64.toBitVec_inj.1
  apply BitVec.eq_of_toNat_eq
  rw [h, l_bv, BitVec.toNat_ofNat, Nat.mod_eq_of_lt (by omega)]
theorem l_tn {n : Nat} (h : n < 4611686018427387904) : (Int64.ofNat n).toBitVec.toNat = n := by
  rw [l_bv, BitVec.toNat_ofNat, Nat.mod_eq_of_lt (by omega)]
theorem l_ms {n : Nat} (h : n < 4611686018427387904) : (Int64.ofNat n).toBitVec.msb = false := by
  rw [BitVec.msb_eq_false_iff_two_mul_lt, l_tn h]; omega
theorem l_shl {n : Nat} (h : n < 1152921504606846976) : Int64.ofNat n <<< ((1 : Int32).toInt64 &&& 63) = Int64.ofNat (2 * n) := by
  refine l_eq ?_ (by omega)
  show (BitVec.ofNat 64 n <<< (1 : Nat)).toNat = _
  rw [BitVec.toNat_shiftLeft, BitVec.toNat_ofNat, Nat.mod_eq_of_lt (a := n) (by omega), Nat.shiftLeft_eq, Nat.mod_eq_of_lt (by omega)]; omega
theorem l_shr {n : Nat} (h : n < 4611686018427387904) : Int64.ofNat n >>> ((1 : Int32).toInt64 &&& 63) = Int64.ofNat (n / 2) := by
  refine l_eq ?_ (by omega)
  show ((Int64.ofNat n).toBitVec.sshiftRight (1 : Nat)).toNat = _
  rw [BitVec.sshiftRight_eq_of_msb_false (l_ms h), BitVec.toNat_ushiftRight, l_tn h, Nat.shiftRight_eq_div_pow]
theorem l_shr2 {n : Nat} (h : n < 4611686018427387904) : Int64.ofNat n >>> ((2 : Int32).toInt64 &&& 63) = Int64.ofNat (n / 4) := by
  refine l_eq ?_ (by omega)
  show ((Int64.ofNat n).toBitVec.sshiftRight (2 : Nat)).toNat = _
  rw [BitVec.sshiftRight_eq_of_msb_false (l_ms h), BitVec.toNat_ushiftRight, l_tn h, Nat.shiftRight_eq_div_pow]
theorem l_and {n : Nat} (h : n < 4611686018427387904) : Int64.ofNat n &&& 1 = Int64.ofNat (n % 2) := by
  refine l_eq ?_ (by omega)
  show ((Int64.ofNat n).toBitVec &&& BitVec.ofNat 64 1).toNat = _
  rw [BitVec.toNat_and, l_tn h]
  exact Nat.and_one_is_mod n
theorem l_or {n b : Nat} (h : n < 1152921504606846976) (hb : b < 2) : Int64.ofNat (2 * n) ||| Int64.ofNat b = Int64.ofNat (2 * n + b) := by
  refine l_eq ?_ (by omega)
  show ((Int64.ofNat (2 * n)).toBitVec ||| (Int64.ofNat b).toBitVec).toNat = _
  rw [BitVec.toNat_or, l_tn (by omega), l_tn (by omega)]
  have := Nat.two_pow_add_eq_or_of_lt (i := 1) (b := b) (by omega) n
  rw [Nat.pow_one] at this
  omega
theorem l_xor0 {n : Nat} (h : n < 1152921504606846976) : Int64.ofNat (2 * n) ^^^ 1 = Int64.ofNat (2 * n + 1) := by
  refine l_eq ?_ (by omega)
  show ((Int64.ofNat (2 * n)).toBitVec ^^^ BitVec.ofNat 64 1).toNat = _
  rw [BitVec.toNat_xor, l_tn (by omega)]
  show 2 * n ^^^ 1 = _
  have e1 : (2 * n ^^^ 1) / 2 = n := by rw [Nat.xor_div_two]; simp
  have e2 : (2 * n ^^^ 1) % 2 = 1 := by rw [Nat.xor_mod_two_eq_one]; omega
  omega
theorem l_xor1 {n : Nat} (h : n < 1152921504606846976) : Int64.ofNat (2 * n + 1) ^^^ 1 = Int64.ofNat (2 * n) := by
  rw [← l_xor0 h, Int64.xor_assoc, Int64.xor_self, Int64.xor_zero]
/-- the operands that wait, the latest the lowest -/
def enc : List Bool → Nat
  | [] => 1
  | b :: t => 2 * enc t + b.toNat
theorem enc_b : ∀ l : List Bool, enc l < 2 ^ (l.length + 1)
  | [] => by decide
  | b :: t => by
    have := enc_b t
    have : b.toNat < 2 := Bool.toNat_lt b
    rw [enc, List.length_cons, Nat.pow_succ]
    omega
theorem i_tb {n : Nat} (h : n < 2147483648) : (Int32.ofNat n).toBitVec.toNat = n := by
  show (BitVec.ofNat 32 n).toNat = n
  rw [BitVec.toNat_ofNat, Nat.mod_eq_of_lt (by omega)]
theorem i_eqn {x : Int32} {n : Nat} (h : x.toBitVec.toNat = n) (hn : n < 2147483648) : x = Int32.ofNat n := by
  apply Int32.toBitVec_inj.1
  apply BitVec.eq_of_toNat_eq
  rw [h, i_tb hn]
theorem i_ms {n : Nat} (h : n < 1073741824) : (Int32.ofNat n).toBitVec.msb = false := by
  rw [BitVec.msb_eq_false_iff_two_mul_lt, i_tb (by omega)]; omega
theorem i_shr1 {n : Nat} (h : n < 1073741824) : Int32.ofNat n >>> ((1 : Int32) &&& 31) = Int32.ofNat (n / 2) := by
  refine i_eqn ?_ (by omega)
  show ((Int32.ofNat n).toBitVec.sshiftRight (1 : Nat)).toNat = _
  rw [BitVec.sshiftRight_eq_of_msb_false (i_ms h), BitVec.toNat_ushiftRight, i_tb (by omega), Nat.shiftRight_eq_div_pow]
theorem i_shr3 {n : Nat} (h : n < 1073741824) : Int32.ofNat n >>> ((3 : Int32) &&& 31) = Int32.ofNat (n / 8) := by
  refine i_eqn ?_ (by omega)
  show ((Int32.ofNat n).toBitVec.sshiftRight (3 : Nat)).toNat = _
  rw [BitVec.sshiftRight_eq_of_msb_false (i_ms h), BitVec.toNat_ushiftRight, i_tb (by omega), Nat.shiftRight_eq_div_pow]
theorem i_and1 {n : Nat} (h : n < 1073741824) : Int32.ofNat n &&& 1 = Int32.ofNat (n % 2) := by
  refine i_eqn ?_ (by omega)
  show ((Int32.ofNat n).toBitVec &&& BitVec.ofNat 32 1).toNat = _
  rw [BitVec.toNat_and, i_tb (by omega)]
  exact Nat.and_one_is_mod n
theorem i_and3 {n : Nat} (h : n < 1073741824) : Int32.ofNat n &&& 3 = Int32.ofNat (n % 4) := by
  refine i_eqn ?_ (by omega)
  show ((Int32.ofNat n).toBitVec &&& BitVec.ofNat 32 3).toNat = _
  rw [BitVec.toNat_and, i_tb (by omega)]
  exact Nat.and_two_pow_sub_one_eq_mod n 2
