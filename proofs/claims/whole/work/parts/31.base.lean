/-! WORDS OF THE PROOF, 2: slices of the heap, branches, small numbers -/
theorem hF_sF_ne {h : Hp} {k a x : Nat} {v : Int32} (hx : x ≠ k) : hF (sF h k a v) x = hF h x := by
  funext y; rw [hF_sF, if_neg (fun q => hx q.1)]
theorem hF_sF_at {h : Hp} {k a y : Nat} {v : Int32} : hF (sF h k a v) k y = if y = a then v else hF h k y := by
  rw [hF_sF]; simp
theorem hG_sG_ne {h : Hp} {k a x : Nat} {v : Option Nat} (hx : x ≠ k) : hG (sG h k a v) x = hG h x := by
  funext y; rw [hG_sG, if_neg (fun q => hx q.1)]
theorem hG_sG_at {h : Hp} {k a y : Nat} {v : Option Nat} : hG (sG h k a v) k y = if y = a then v else hG h k y := by
  rw [hG_sG]; simp
theorem hE_sE_at {h : Hp} {a i j : Nat} {v : Int32} : hE (sE h a i v) a j = if j = i then v else hE h a j := by
  rw [hE_sE]; simp
theorem hQ_sQ_at {h : Hp} {a i j : Nat} {v : Option Nat} : hQ (sQ h a i v) a j = if j = i then v else hQ h a j := by
  rw [hQ_sQ]; simp
theorem hE_cpE_at {h : Hp} {a sp b dp n i : Nat} : hE (cpE h a sp b dp n) b i = va_cpy (hE h a) (hE h b) sp dp n i := by
  rw [hE_cpE, if_pos rfl]
theorem hE_nw_ne {h : Hp} {c l s a : Nat} (ha : a ≠ hN h) : hE (nw h c l s) a = hE h a := by
  funext i; rw [hE_nw, if_neg ha]
theorem hQ_nw_ne {h : Hp} {c l s a : Nat} (ha : a ≠ hN h) : hQ (nw h c l s) a = hQ h a := by
  funext i; rw [hQ_nw, if_neg ha]
theorem hS_nw_ne {h : Hp} {c l s a : Nat} (ha : a ≠ hN h) : hS (nw h c l s) a = hS h a := by
  rw [hS_nw, if_neg ha]
theorem hF_nw_ne {h : Hp} {c l s k a : Nat} (ha : a ≠ hN h) : hF (nw h c l s) k a = hF h k a := by
  rw [hF_nw, if_neg ha]
theorem hG_nw_ne {h : Hp} {c l s k a : Nat} (ha : a ≠ hN h) : hG (nw h c l s) k a = hG h k a := by
  rw [hG_nw, if_neg ha]
/-! branches with a common end are one -/
theorem br_or {a b : Prop} [Decidable a] [Decidable b] {R S : Prop} : (if a then R else if b then R else S) ↔ (if a ∨ b then R else S) := by
  by_cases ha : a <;> by_cases hb : b <;> simp [ha, hb]
theorem br_and {a b : Prop} [Decidable a] [Decidable b] {R S : Prop} : (if a then (if b then S else R) else R) ↔ (if a ∧ b then S else R) := by
  by_cases ha : a <;> by_cases hb : b <;> simp [ha, hb]
theorem br_na {a b : Prop} [Decidable a] [Decidable b] {R S : Prop} : (if a then R else if b then S else R) ↔ (if ¬ a ∧ b then S else R) := by
  by_cases ha : a <;> by_cases hb : b <;> simp [ha, hb]
theorem br_an {a b : Prop} [Decidable a] [Decidable b] {R S : Prop} : (if a then (if b then R else S) else R) ↔ (if a ∧ ¬ b then S else R) := by
  by_cases ha : a <;> by_cases hb : b <;> simp [ha, hb]
theorem fit_2 {t : Nat} {b : Prop} [Decidable b] : fitT 1 (if b then 1 else 0) = True := by
  by_cases hb : b <;> simp [hb, fitT]
theorem one_ne : ((1 : Int32) = 0) = False := by simp
theorem ki_100 : (ki 100 = true) = True := by simp [ki]
theorem ki_200 : (ki 200 = true) = True := by simp [ki]
theorem kb_101 : (kb 101 = true) = True := by simp [kb]
theorem kb_202 : (kb 202 = true) = True := by simp [kb]
theorem kq_302 : (kq 302 = true) = True := by simp [kq]
theorem kq_303 : (kq 303 = true) = True := by simp [kq]
theorem kq_304 : (kq 304 = true) = True := by simp [kq]
theorem kq_308 : (kq 308 = true) = True := by simp [kq]
theorem kq_309 : (kq 309 = true) = True := by simp [kq]
theorem kq_310 : (kq 310 = true) = True := by simp [kq]
theorem ka_100 : (ka 100 = true) = True := by simp [ka]
theorem ka_101 : (ka 101 = true) = True := by simp [ka]
theorem ka_302 : (ka 302 = true) = True := by simp [ka]
theorem ka_303 : (ka 303 = true) = True := by simp [ka]
theorem ka_304 : (ka 304 = true) = True := by simp [ka]
theorem ka_308 : (ka 308 = true) = True := by simp [ka]
theorem ka_309 : (ka 309 = true) = True := by simp [ka]
theorem ka_310 : (ka 310 = true) = True := by simp [ka]
/-! small numbers -/
theorem tn_i {n : Nat} (h : n < 2147483648) : (Int32.ofNat n).toInt = (n : Int) := Int32.toInt_ofNat_of_lt h
theorem tn_c {n : Nat} (h : n < 2147483648) : (Int32.ofNat n).toNatClampNeg = n := Int32.toNatClampNeg_ofNat_of_lt h
theorem tc_def (x : Int32) : x.toNatClampNeg = x.toInt.toNat := rfl
theorem i_lt (x y : Int32) : x < y ↔ x.toInt < y.toInt := Int32.lt_iff_toInt_lt
theorem i_le (x y : Int32) : x ≤ y ↔ x.toInt ≤ y.toInt := Int32.le_iff_toInt_le
theorem i_eq (x y : Int32) : x = y ↔ x.toInt = y.toInt := Int32.toInt_inj.symm
theorem i_nat {x : Int32} (h : 0 ≤ x.toInt) : ∃ k : Nat, x = Int32.ofNat k ∧ k < 2147483648 ∧ (k : Int) = x.toInt := by
  have h2 := x.toInt_lt
  refine ⟨x.toInt.toNat, ?_, by omega, by omega⟩
  apply Int32.toInt_inj.mp
  rw [tn_i (by omega)]; omega
theorem i_inj {a b : Nat} (ha : a < 2147483648) (hb : b < 2147483648) : Int32.ofNat a = Int32.ofNat b ↔ a = b := by
  rw [i_eq, tn_i ha, tn_i hb]; omega
theorem i_bm {x : Int} (h1 : -2147483648 ≤ x) (h2 : x < 2147483648) : x.bmod (2 ^ 32) = x := by
  rw [Int.bmod_def]; omega
theorem i_add {x y : Int32} (h1 : -2147483648 ≤ x.toInt + y.toInt) (h2 : x.toInt + y.toInt < 2147483648) : (x + y).toInt = x.toInt + y.toInt := by
  rw [Int32.toInt_add, i_bm h1 h2]
theorem i_sub {x y : Int32} (h1 : -2147483648 ≤ x.toInt - y.toInt) (h2 : x.toInt - y.toInt < 2147483648) : (x - y).toInt = x.toInt - y.toInt := by
  rw [Int32.toInt_sub, i_bm h1 h2]
theorem i_mul {x y : Int32} (h1 : -2147483648 ≤ x.toInt * y.toInt) (h2 : x.toInt * y.toInt < 2147483648) : (x * y).toInt = x.toInt * y.toInt := by
  rw [Int32.toInt_mul, i_bm h1 h2]
theorem n_add (a b : Nat) : Int32.ofNat a + Int32.ofNat b = Int32.ofNat (a + b) := (Int32.ofNat_add a b).symm
theorem n_mul (a b : Nat) : Int32.ofNat a * Int32.ofNat b = Int32.ofNat (a * b) := (Int32.ofNat_mul a b).symm
theorem n_sub {a b : Nat} (h : b ≤ a) : Int32.ofNat a - Int32.ofNat b = Int32.ofNat (a - b) := (Int32.ofNat_sub a b h).symm
theorem n_suc (a : Nat) : Int32.ofNat a + 1 = Int32.ofNat (a + 1) := n_add a 1
theorem n_0 : (0 : Int32) = Int32.ofNat 0 := rfl
theorem n_lt {a b : Nat} (ha : a < 2147483648) (hb : b < 2147483648) : Int32.ofNat a < Int32.ofNat b ↔ a < b := by
  rw [i_lt, tn_i ha, tn_i hb]; omega
theorem n_le {a b : Nat} (ha : a < 2147483648) (hb : b < 2147483648) : Int32.ofNat a ≤ Int32.ofNat b ↔ a ≤ b := by
  rw [i_le, tn_i ha, tn_i hb]; omega
theorem inb_iff {x : Int32} {n : Nat} : inb x n ↔ 0 ≤ x.toInt ∧ x.toInt < (n : Int) := Iff.rfl
