/-! WORDS OF THE PROOF, 2: slices of the heap, branches, small numbers -/
theorem hF_sF_ne {h : Hp} {k a x : Nat} {v : Int32} (hx : x ≠ k) : hF (sF h k a v) x = hF h x := by
  funext y; rw [hF_sF, if_neg (fun q => hx q.1)]
theorem hF_sF_at {h : Hp} {k a y : Nat} {v : Int32} : hF (sF h k a v) k y = if y = a then v else hF h k y := by
  rw [hF_sF]; simp
theorem hG_sG_ne {h : Hp} {k a x : Nat} {v : Option Nat} (hx : x ≠ k) : hG (sG h k a v) x = hG h x := by
  funext y; rw [hG_sG, if_neg (fun q => hx q.1)]
theorem hG_sG_at {h : Hp} {k a y : Nat} {v : Option Nat} : hG (sG h k a v) k y = if y = a then v else hG h k y := by
  rw [hG_sG]; simp
theorem hE_sE_at {h : Hp} {a i j : Nat} {v : Int32} : hE (sE h a i v) a j = if j = i then v else hE h a j := by
  rw [hE_sE]; simp
theorem hQ_sQ_at {h : Hp} {a i j : Nat} {v : Option Nat} : hQ (sQ h a i v) a j = if j = i then v else hQ h a j := by
  rw [hQ_sQ]; simp
theorem hE_cpE_at {h : Hp} {a sp b dp n i : Nat} : hE (cpE h a sp b dp n) b i = va_cpy (hE h a) (hE h b) sp dp n i := by
  rw [hE_cpE, if_pos rfl]
theorem hE_nw_ne {h : Hp} {c l s a : Nat} (ha : a ≠ hN h) : hE (nw h c l s) a = hE h a := by
  funext i; rw [hE_nw, if_neg ha]
theorem hQ_nw_ne {h : Hp} {c l s a : Nat} (ha : a ≠ hN h) : hQ (nw h c l s) a = hQ h a := by
  funext i; rw [hQ_nw, if_neg ha]
theorem hS_nw_ne {h : Hp} {c l s a : Nat} (ha : a ≠ hN h) : hS (nw h c l s) a = hS h a := by
  rw [hS_nw, if_neg ha]
theorem hF_nw_ne {h : Hp} {c l s k a : Nat} (ha : a ≠ hN h) : hF (nw h c l s) k a = hF h k a := by
  rw [hF_nw, if_neg ha]
theorem hG_nw_ne {h : Hp} {c l s k a : Nat} (ha : a ≠ hN h) : hG (nw h c l s) k a = hG h k a := by
  rw [hG_nw, if_neg ha]
/-! what a store leaves, as rewriting steps of their own (not by unfolding) -/
theorem xN_sF (h : Hp) (k a : Nat) (v : Int32) : hN (sF h k a v) = hN h := id rfl
theorem xU_sF (h : Hp) (k a : Nat) (v : Int32) : hU (sF h k a v) = hU h := id rfl
theorem xS_sF (h : Hp) (k a : Nat) (v : Int32) : hS (sF h k a v) = hS h := id rfl
theorem xG_sF (h : Hp) (k a : Nat) (v : Int32) : hG (sF h k a v) = hG h := id rfl
theorem xE_sF (h : Hp) (k a : Nat) (v : Int32) : hE (sF h k a v) = hE h := id rfl
theorem xQ_sF (h : Hp) (k a : Nat) (v : Int32) : hQ (sF h k a v) = hQ h := id rfl
theorem xN_sG (h : Hp) (k a : Nat) (v : Option Nat) : hN (sG h k a v) = hN h := id rfl
theorem xU_sG (h : Hp) (k a : Nat) (v : Option Nat) : hU (sG h k a v) = hU h := id rfl
theorem xS_sG (h : Hp) (k a : Nat) (v : Option Nat) : hS (sG h k a v) = hS h := id rfl
theorem xF_sG (h : Hp) (k a : Nat) (v : Option Nat) : hF (sG h k a v) = hF h := id rfl
theorem xE_sG (h : Hp) (k a : Nat) (v : Option Nat) : hE (sG h k a v) = hE h := id rfl
theorem xQ_sG (h : Hp) (k a : Nat) (v : Option Nat) : hQ (sG h k a v) = hQ h := id rfl
theorem xN_sE (h : Hp) (a i : Nat) (v : Int32) : hN (sE h a i v) = hN h := id rfl
theorem xU_sE (h : Hp) (a i : Nat) (v : Int32) : hU (sE h a i v) = hU h := id rfl
theorem xS_sE (h : Hp) (a i : Nat) (v : Int32) : hS (sE h a i v) = hS h := id rfl
theorem xF_sE (h : Hp) (a i : Nat) (v : Int32) : hF (sE h a i v) = hF h := id rfl
theorem xG_sE (h : Hp) (a i : Nat) (v : Int32) : hG (sE h a i v) = hG h := id rfl
theorem xQ_sE (h : Hp) (a i : Nat) (v : Int32) : hQ (sE h a i v) = hQ h := id rfl
theorem xN_sQ (h : Hp) (a i : Nat) (v : Option Nat) : hN (sQ h a i v) = hN h := id rfl
theorem xU_sQ (h : Hp) (a i : Nat) (v : Option Nat) : hU (sQ h a i v) = hU h := id rfl
theorem xS_sQ (h : Hp) (a i : Nat) (v : Option Nat) : hS (sQ h a i v) = hS h := id rfl
theorem xF_sQ (h : Hp) (a i : Nat) (v : Option Nat) : hF (sQ h a i v) = hF h := id rfl
theorem xG_sQ (h : Hp) (a i : Nat) (v : Option Nat) : hG (sQ h a i v) = hG h := id rfl
theorem xE_sQ (h : Hp) (a i : Nat) (v : Option Nat) : hE (sQ h a i v) = hE h := id rfl
theorem xN_cpE (h : Hp) (a sp b dp n : Nat) : hN (cpE h a sp b dp n) = hN h := id rfl
theorem xU_cpE (h : Hp) (a sp b dp n : Nat) : hU (cpE h a sp b dp n) = hU h := id rfl
theorem xS_cpE (h : Hp) (a sp b dp n : Nat) : hS (cpE h a sp b dp n) = hS h := id rfl
theorem xF_cpE (h : Hp) (a sp b dp n : Nat) : hF (cpE h a sp b dp n) = hF h := id rfl
theorem xG_cpE (h : Hp) (a sp b dp n : Nat) : hG (cpE h a sp b dp n) = hG h := id rfl
theorem xQ_cpE (h : Hp) (a sp b dp n : Nat) : hQ (cpE h a sp b dp n) = hQ h := id rfl
theorem xN_nw (h : Hp) (c l s : Nat) : hN (nw h c l s) = hN h + 1 := id rfl
theorem xU_nw (h : Hp) (c l s : Nat) : hU (nw h c l s) = hU h + s := id rfl
/-! branches with a common end are one -/
theorem br_or {a b : Prop} [Decidable a] [Decidable b] {R S : Prop} : (if a then R else if b then R else S) ↔ (if a ∨ b then R else S) := by
  by_cases ha : a <;> by_cases hb : b <;> simp [ha, hb]
theorem br_and {a b : Prop} [Decidable a] [Decidable b] {R S : Prop} : (if a then (if b then S else R) else R) ↔ (if a ∧ b then S else R) := by
  by_cases ha : a <;> by_cases hb : b <;> simp [ha, hb]
theorem br_na {a b : Prop} [Decidable a] [Decidable b] {R S : Prop} : (if a then R else if b then S else R) ↔ (if ¬ a ∧ b then S else R) := by
  by_cases ha : a <;> by_cases hb : b <;> simp [ha, hb]
theorem br_an {a b : Prop} [Decidable a] [Decidable b] {R S : Prop} : (if a then (if b then R else S) else R) ↔ (if a ∧ ¬ b then S else R) := by
  by_cases ha : a <;> by_cases hb : b <;> simp [ha, hb]
theorem fit_2 {t : Nat} {b : Prop} [Decidable b] : fitT 1 (if b then 1 else 0) = True := by
  by_cases hb : b <;> simp [hb, fitT]
theorem one_ne : ((1 : Int32) = 0) = False := by simp
theorem ki_100 : (ki 100 = true) = True := by simp [ki]
theorem ki_200 : (ki 200 = true) = True := by simp [ki]
theorem kb_101 : (kb 101 = true) = True := by simp [kb]
theorem kb_202 : (kb 202 = true) = True := by simp [kb]
theorem kq_302 : (kq 302 = true) = True := by simp [kq]
theorem kq_303 : (kq 303 = true) = True := by simp [kq]
theorem kq_304 : (kq 304 = true) = True := by simp [kq]
theorem kq_308 : (kq 308 = true) = True := by simp [kq]
theorem kq_309 : (kq 309 = true) = True := by simp [kq]
theorem kq_310 : (kq 310 = true) = True := by simp [kq]
theorem ka_100 : (ka 100 = true) = True := by simp [ka]
theorem ka_101 : (ka 101 = true) = True := by simp [ka]
theorem ka_302 : (ka 302 = true) = True := by simp [ka]
theorem ka_303 : (ka 303 = true) = True := by simp [ka]
theorem ka_304 : (ka 304 = true) = True := by simp [ka]
theorem ka_308 : (ka 308 = true) = True := by simp [ka]
theorem ka_309 : (ka 309 = true) = True := by simp [ka]
theorem ka_310 : (ka 310 = true) = True := by simp [ka]
/-! small numbers -/
theorem tn_i {n : Nat} (h : n < 2147483648) : (Int32.ofNat n).toInt = (n : Int) := Int32.toInt_ofNat_of_lt h
theorem tn_c {n : Nat} (h : n < 2147483648) : (Int32.ofNat n).toNatClampNeg = n := Int32.toNatClampNeg_ofNat_of_lt h
theorem tc_def (x : Int32) : x.toNatClampNeg = x.toInt.toNat := rfl
theorem i_lt (x y : Int32) : x < y ↔ x.toInt < y.toInt := Int32.lt_iff_toInt_lt
theorem i_le (x y : Int32) : x ≤ y ↔ x.toInt ≤ y.toInt := Int32.le_iff_toInt_le
theorem i_eq (x y : Int32) : x = y ↔ x.toInt = y.toInt := Int32.toInt_inj.symm
theorem i_nat {x : Int32} (h : 0 ≤ x.toInt) : ∃ k : Nat, x = Int32.ofNat k ∧ k < 2147483648 ∧ (k : Int) = x.toInt := by
  have h2 := x.toInt_lt
  refine ⟨x.toInt.toNat, ?_, by omega, by omega⟩
  apply Int32.toInt_inj.mp
  rw [tn_i (by omega)]; omega
theorem i_inj {a b : Nat} (ha : a < 2147483648) (hb : b < 2147483648) : Int32.ofNat a = Int32.ofNat b ↔ a = b := by
  rw [i_eq, tn_i ha, tn_i hb]; omega
theorem i_bm {x : Int} (h1 : -2147483648 ≤ x) (h2 : x < 2147483648) : x.bmod (2 ^ 32) = x := by
  rw [Int.bmod_def]; omega
theorem i_add {x y : Int32} (h1 : -2147483648 ≤ x.toInt + y.toInt) (h2 : x.toInt + y.toInt < 2147483648) : (x + y).toInt = x.toInt + y.toInt := by
  rw [Int32.toInt_add, i_bm h1 h2]
theorem i_sub {x y : Int32} (h1 : -2147483648 ≤ x.toInt - y.toInt) (h2 : x.toInt - y.toInt < 2147483648) : (x - y).toInt = x.toInt - y.toInt := by
  rw [Int32.toInt_sub, i_bm h1 h2]
theorem i_mul {x y : Int32} (h1 : -2147483648 ≤ x.toInt * y.toInt) (h2 : x.toInt * y.toInt < 2147483648) : (x * y).toInt = x.toInt * y.toInt := by
  rw [Int32.toInt_mul, i_bm h1 h2]
theorem n_add (a b : Nat) : Int32.ofNat a + Int32.ofNat b = Int32.ofNat (a + b) := (Int32.ofNat_add a b).symm
theorem n_mul (a b : Nat) : Int32.ofNat a * Int32.ofNat b = Int32.ofNat (a * b) := (Int32.ofNat_mul a b).symm
theorem n_sub {a b : Nat} (h : b ≤ a) : Int32.ofNat a - Int32.ofNat b = Int32.ofNat (a - b) := (Int32.ofNat_sub a b h).symm
theorem n_suc (a : Nat) : Int32.ofNat a + 1 = Int32.ofNat (a + 1) := n_add a 1
theorem n_0 : (0 : Int32) = Int32.ofNat 0 := rfl
theorem n_lt {a b : Nat} (ha : a < 2147483648) (hb : b < 2147483648) : Int32.ofNat a < Int32.ofNat b ↔ a < b := by
  rw [i_lt, tn_i ha, tn_i hb]; omega
theorem n_le {a b : Nat} (ha : a < 2147483648) (hb : b < 2147483648) : Int32.ofNat a ≤ Int32.ofNat b ↔ a ≤ b := by
  rw [i_le, tn_i ha, tn_i hb]; omega
theorem inb_iff {x : Int32} {n : Nat} : inb x n ↔ 0 ≤ x.toInt ∧ x.toInt < (n : Int) := Iff.rfl
theorem nq_0_1 : ((0 : Int32) = 1) = False := by decide
theorem nq_0_2 : ((0 : Int32) = 2) = False := by decide
theorem nq_0_3 : ((0 : Int32) = 3) = False := by decide
theorem nq_0_4 : ((0 : Int32) = 4) = False := by decide
theorem nq_0_5 : ((0 : Int32) = 5) = False := by decide
theorem nq_0_6 : ((0 : Int32) = 6) = False := by decide
theorem nq_0_7 : ((0 : Int32) = 7) = False := by decide
theorem nq_0_8 : ((0 : Int32) = 8) = False := by decide
theorem nq_0_9 : ((0 : Int32) = 9) = False := by decide
theorem nq_0_10 : ((0 : Int32) = 10) = False := by decide
theorem nq_0_11 : ((0 : Int32) = 11) = False := by decide
theorem nq_0_12 : ((0 : Int32) = 12) = False := by decide
theorem nq_0_m1 : ((0 : Int32) = (-1)) = False := by decide
theorem nq_1_0 : ((1 : Int32) = 0) = False := by decide
theorem nq_1_2 : ((1 : Int32) = 2) = False := by decide
theorem nq_1_3 : ((1 : Int32) = 3) = False := by decide
theorem nq_1_4 : ((1 : Int32) = 4) = False := by decide
theorem nq_1_5 : ((1 : Int32) = 5) = False := by decide
theorem nq_1_6 : ((1 : Int32) = 6) = False := by decide
theorem nq_1_7 : ((1 : Int32) = 7) = False := by decide
theorem nq_1_8 : ((1 : Int32) = 8) = False := by decide
theorem nq_1_9 : ((1 : Int32) = 9) = False := by decide
theorem nq_1_10 : ((1 : Int32) = 10) = False := by decide
theorem nq_1_11 : ((1 : Int32) = 11) = False := by decide
theorem nq_1_12 : ((1 : Int32) = 12) = False := by decide
theorem nq_1_m1 : ((1 : Int32) = (-1)) = False := by decide
theorem nq_2_0 : ((2 : Int32) = 0) = False := by decide
theorem nq_2_1 : ((2 : Int32) = 1) = False := by decide
theorem nq_2_3 : ((2 : Int32) = 3) = False := by decide
theorem nq_2_4 : ((2 : Int32) = 4) = False := by decide
theorem nq_2_5 : ((2 : Int32) = 5) = False := by decide
theorem nq_2_6 : ((2 : Int32) = 6) = False := by decide
theorem nq_2_7 : ((2 : Int32) = 7) = False := by decide
theorem nq_2_8 : ((2 : Int32) = 8) = False := by decide
theorem nq_2_9 : ((2 : Int32) = 9) = False := by decide
theorem nq_2_10 : ((2 : Int32) = 10) = False := by decide
theorem nq_2_11 : ((2 : Int32) = 11) = False := by decide
theorem nq_2_12 : ((2 : Int32) = 12) = False := by decide
theorem nq_2_m1 : ((2 : Int32) = (-1)) = False := by decide
theorem nq_3_0 : ((3 : Int32) = 0) = False := by decide
theorem nq_3_1 : ((3 : Int32) = 1) = False := by decide
theorem nq_3_2 : ((3 : Int32) = 2) = False := by decide
theorem nq_3_4 : ((3 : Int32) = 4) = False := by decide
theorem nq_3_5 : ((3 : Int32) = 5) = False := by decide
theorem nq_3_6 : ((3 : Int32) = 6) = False := by decide
theorem nq_3_7 : ((3 : Int32) = 7) = False := by decide
theorem nq_3_8 : ((3 : Int32) = 8) = False := by decide
theorem nq_3_9 : ((3 : Int32) = 9) = False := by decide
theorem nq_3_10 : ((3 : Int32) = 10) = False := by decide
theorem nq_3_11 : ((3 : Int32) = 11) = False := by decide
theorem nq_3_12 : ((3 : Int32) = 12) = False := by decide
theorem nq_3_m1 : ((3 : Int32) = (-1)) = False := by decide
theorem nq_4_0 : ((4 : Int32) = 0) = False := by decide
theorem nq_4_1 : ((4 : Int32) = 1) = False := by decide
theorem nq_4_2 : ((4 : Int32) = 2) = False := by decide
theorem nq_4_3 : ((4 : Int32) = 3) = False := by decide
theorem nq_4_5 : ((4 : Int32) = 5) = False := by decide
theorem nq_4_6 : ((4 : Int32) = 6) = False := by decide
theorem nq_4_7 : ((4 : Int32) = 7) = False := by decide
theorem nq_4_8 : ((4 : Int32) = 8) = False := by decide
theorem nq_4_9 : ((4 : Int32) = 9) = False := by decide
theorem nq_4_10 : ((4 : Int32) = 10) = False := by decide
theorem nq_4_11 : ((4 : Int32) = 11) = False := by decide
theorem nq_4_12 : ((4 : Int32) = 12) = False := by decide
theorem nq_4_m1 : ((4 : Int32) = (-1)) = False := by decide
theorem nq_5_0 : ((5 : Int32) = 0) = False := by decide
theorem nq_5_1 : ((5 : Int32) = 1) = False := by decide
theorem nq_5_2 : ((5 : Int32) = 2) = False := by decide
theorem nq_5_3 : ((5 : Int32) = 3) = False := by decide
theorem nq_5_4 : ((5 : Int32) = 4) = False := by decide
theorem nq_5_6 : ((5 : Int32) = 6) = False := by decide
theorem nq_5_7 : ((5 : Int32) = 7) = False := by decide
theorem nq_5_8 : ((5 : Int32) = 8) = False := by decide
theorem nq_5_9 : ((5 : Int32) = 9) = False := by decide
theorem nq_5_10 : ((5 : Int32) = 10) = False := by decide
theorem nq_5_11 : ((5 : Int32) = 11) = False := by decide
theorem nq_5_12 : ((5 : Int32) = 12) = False := by decide
theorem nq_5_m1 : ((5 : Int32) = (-1)) = False := by decide
theorem nq_6_0 : ((6 : Int32) = 0) = False := by decide
theorem nq_6_1 : ((6 : Int32) = 1) = False := by decide
theorem nq_6_2 : ((6 : Int32) = 2) = False := by decide
theorem nq_6_3 : ((6 : Int32) = 3) = False := by decide
theorem nq_6_4 : ((6 : Int32) = 4) = False := by decide
theorem nq_6_5 : ((6 : Int32) = 5) = False := by decide
theorem nq_6_7 : ((6 : Int32) = 7) = False := by decide
theorem nq_6_8 : ((6 : Int32) = 8) = False := by decide
theorem nq_6_9 : ((6 : Int32) = 9) = False := by decide
theorem nq_6_10 : ((6 : Int32) = 10) = False := by decide
theorem nq_6_11 : ((6 : Int32) = 11) = False := by decide
theorem nq_6_12 : ((6 : Int32) = 12) = False := by decide
theorem nq_6_m1 : ((6 : Int32) = (-1)) = False := by decide
theorem nq_7_0 : ((7 : Int32) = 0) = False := by decide
theorem nq_7_1 : ((7 : Int32) = 1) = False := by decide
theorem nq_7_2 : ((7 : Int32) = 2) = False := by decide
theorem nq_7_3 : ((7 : Int32) = 3) = False := by decide
theorem nq_7_4 : ((7 : Int32) = 4) = False := by decide
theorem nq_7_5 : ((7 : Int32) = 5) = False := by decide
theorem nq_7_6 : ((7 : Int32) = 6) = False := by decide
theorem nq_7_8 : ((7 : Int32) = 8) = False := by decide
theorem nq_7_9 : ((7 : Int32) = 9) = False := by decide
theorem nq_7_10 : ((7 : Int32) = 10) = False := by decide
theorem nq_7_11 : ((7 : Int32) = 11) = False := by decide
theorem nq_7_12 : ((7 : Int32) = 12) = False := by decide
theorem nq_7_m1 : ((7 : Int32) = (-1)) = False := by decide
theorem nq_8_0 : ((8 : Int32) = 0) = False := by decide
theorem nq_8_1 : ((8 : Int32) = 1) = False := by decide
theorem nq_8_2 : ((8 : Int32) = 2) = False := by decide
theorem nq_8_3 : ((8 : Int32) = 3) = False := by decide
theorem nq_8_4 : ((8 : Int32) = 4) = False := by decide
theorem nq_8_5 : ((8 : Int32) = 5) = False := by decide
theorem nq_8_6 : ((8 : Int32) = 6) = False := by decide
theorem nq_8_7 : ((8 : Int32) = 7) = False := by decide
theorem nq_8_9 : ((8 : Int32) = 9) = False := by decide
theorem nq_8_10 : ((8 : Int32) = 10) = False := by decide
theorem nq_8_11 : ((8 : Int32) = 11) = False := by decide
theorem nq_8_12 : ((8 : Int32) = 12) = False := by decide
theorem nq_8_m1 : ((8 : Int32) = (-1)) = False := by decide
theorem nq_9_0 : ((9 : Int32) = 0) = False := by decide
theorem nq_9_1 : ((9 : Int32) = 1) = False := by decide
theorem nq_9_2 : ((9 : Int32) = 2) = False := by decide
theorem nq_9_3 : ((9 : Int32) = 3) = False := by decide
theorem nq_9_4 : ((9 : Int32) = 4) = False := by decide
theorem nq_9_5 : ((9 : Int32) = 5) = False := by decide
theorem nq_9_6 : ((9 : Int32) = 6) = False := by decide
theorem nq_9_7 : ((9 : Int32) = 7) = False := by decide
theorem nq_9_8 : ((9 : Int32) = 8) = False := by decide
theorem nq_9_10 : ((9 : Int32) = 10) = False := by decide
theorem nq_9_11 : ((9 : Int32) = 11) = False := by decide
theorem nq_9_12 : ((9 : Int32) = 12) = False := by decide
theorem nq_9_m1 : ((9 : Int32) = (-1)) = False := by decide
theorem nq_10_0 : ((10 : Int32) = 0) = False := by decide
theorem nq_10_1 : ((10 : Int32) = 1) = False := by decide
theorem nq_10_2 : ((10 : Int32) = 2) = False := by decide
theorem nq_10_3 : ((10 : Int32) = 3) = False := by decide
theorem nq_10_4 : ((10 : Int32) = 4) = False := by decide
theorem nq_10_5 : ((10 : Int32) = 5) = False := by decide
theorem nq_10_6 : ((10 : Int32) = 6) = False := by decide
theorem nq_10_7 : ((10 : Int32) = 7) = False := by decide
theorem nq_10_8 : ((10 : Int32) = 8) = False := by decide
theorem nq_10_9 : ((10 : Int32) = 9) = False := by decide
theorem nq_10_11 : ((10 : Int32) = 11) = False := by decide
theorem nq_10_12 : ((10 : Int32) = 12) = False := by decide
theorem nq_10_m1 : ((10 : Int32) = (-1)) = False := by decide
theorem nq_11_0 : ((11 : Int32) = 0) = False := by decide
theorem nq_11_1 : ((11 : Int32) = 1) = False := by decide
theorem nq_11_2 : ((11 : Int32) = 2) = False := by decide
theorem nq_11_3 : ((11 : Int32) = 3) = False := by decide
theorem nq_11_4 : ((11 : Int32) = 4) = False := by decide
theorem nq_11_5 : ((11 : Int32) = 5) = False := by decide
theorem nq_11_6 : ((11 : Int32) = 6) = False := by decide
theorem nq_11_7 : ((11 : Int32) = 7) = False := by decide
theorem nq_11_8 : ((11 : Int32) = 8) = False := by decide
theorem nq_11_9 : ((11 : Int32) = 9) = False := by decide
theorem nq_11_10 : ((11 : Int32) = 10) = False := by decide
theorem nq_11_12 : ((11 : Int32) = 12) = False := by decide
theorem nq_11_m1 : ((11 : Int32) = (-1)) = False := by decide
theorem nq_12_0 : ((12 : Int32) = 0) = False := by decide
theorem nq_12_1 : ((12 : Int32) = 1) = False := by decide
theorem nq_12_2 : ((12 : Int32) = 2) = False := by decide
theorem nq_12_3 : ((12 : Int32) = 3) = False := by decide
theorem nq_12_4 : ((12 : Int32) = 4) = False := by decide
theorem nq_12_5 : ((12 : Int32) = 5) = False := by decide
theorem nq_12_6 : ((12 : Int32) = 6) = False := by decide
theorem nq_12_7 : ((12 : Int32) = 7) = False := by decide
theorem nq_12_8 : ((12 : Int32) = 8) = False := by decide
theorem nq_12_9 : ((12 : Int32) = 9) = False := by decide
theorem nq_12_10 : ((12 : Int32) = 10) = False := by decide
theorem nq_12_11 : ((12 : Int32) = 11) = False := by decide
theorem nq_12_m1 : ((12 : Int32) = (-1)) = False := by decide
theorem nq_m1_0 : (((-1) : Int32) = 0) = False := by decide
theorem nq_m1_1 : (((-1) : Int32) = 1) = False := by decide
theorem nq_m1_2 : (((-1) : Int32) = 2) = False := by decide
theorem nq_m1_3 : (((-1) : Int32) = 3) = False := by decide
theorem nq_m1_4 : (((-1) : Int32) = 4) = False := by decide
theorem nq_m1_5 : (((-1) : Int32) = 5) = False := by decide
theorem nq_m1_6 : (((-1) : Int32) = 6) = False := by decide
theorem nq_m1_7 : (((-1) : Int32) = 7) = False := by decide
theorem nq_m1_8 : (((-1) : Int32) = 8) = False := by decide
theorem nq_m1_9 : (((-1) : Int32) = 9) = False := by decide
theorem nq_m1_10 : (((-1) : Int32) = 10) = False := by decide
theorem nq_m1_11 : (((-1) : Int32) = 11) = False := by decide
theorem nq_m1_12 : (((-1) : Int32) = 12) = False := by decide
