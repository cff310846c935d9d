/-! THE HEAP OF MAPS: what each place holds behind a store -/
theorem hN_sF (h : Hp) (k a : Nat) (v : Int32) : hN (sF h k a v) = hN h := rfl
theorem hU_sF (h : Hp) (k a : Nat) (v : Int32) : hU (sF h k a v) = hU h := rfl
theorem hS_sF (h : Hp) (k a : Nat) (v : Int32) : hS (sF h k a v) = hS h := rfl
theorem hG_sF (h : Hp) (k a : Nat) (v : Int32) : hG (sF h k a v) = hG h := rfl
theorem hE_sF (h : Hp) (k a : Nat) (v : Int32) : hE (sF h k a v) = hE h := rfl
theorem hQ_sF (h : Hp) (k a : Nat) (v : Int32) : hQ (sF h k a v) = hQ h := rfl
theorem hN_sG (h : Hp) (k a : Nat) (v : Option Nat) : hN (sG h k a v) = hN h := rfl
theorem hU_sG (h : Hp) (k a : Nat) (v : Option Nat) : hU (sG h k a v) = hU h := rfl
theorem hS_sG (h : Hp) (k a : Nat) (v : Option Nat) : hS (sG h k a v) = hS h := rfl
theorem hF_sG (h : Hp) (k a : Nat) (v : Option Nat) : hF (sG h k a v) = hF h := rfl
theorem hE_sG (h : Hp) (k a : Nat) (v : Option Nat) : hE (sG h k a v) = hE h := rfl
theorem hQ_sG (h : Hp) (k a : Nat) (v : Option Nat) : hQ (sG h k a v) = hQ h := rfl
theorem hN_sE (h : Hp) (a i : Nat) (v : Int32) : hN (sE h a i v) = hN h := rfl
theorem hU_sE (h : Hp) (a i : Nat) (v : Int32) : hU (sE h a i v) = hU h := rfl
theorem hS_sE (h : Hp) (a i : Nat) (v : Int32) : hS (sE h a i v) = hS h := rfl
theorem hF_sE (h : Hp) (a i : Nat) (v : Int32) : hF (sE h a i v) = hF h := rfl
theorem hG_sE (h : Hp) (a i : Nat) (v : Int32) : hG (sE h a i v) = hG h := rfl
theorem hQ_sE (h : Hp) (a i : Nat) (v : Int32) : hQ (sE h a i v) = hQ h := rfl
theorem hN_sQ (h : Hp) (a i : Nat) (v : Option Nat) : hN (sQ h a i v) = hN h := rfl
theorem hU_sQ (h : Hp) (a i : Nat) (v : Option Nat) : hU (sQ h a i v) = hU h := rfl
theorem hS_sQ (h : Hp) (a i : Nat) (v : Option Nat) : hS (sQ h a i v) = hS h := rfl
theorem hF_sQ (h : Hp) (a i : Nat) (v : Option Nat) : hF (sQ h a i v) = hF h := rfl
theorem hG_sQ (h : Hp) (a i : Nat) (v : Option Nat) : hG (sQ h a i v) = hG h := rfl
theorem hE_sQ (h : Hp) (a i : Nat) (v : Option Nat) : hE (sQ h a i v) = hE h := rfl
theorem hN_cpE (h : Hp) (a sp b dp n : Nat) : hN (cpE h a sp b dp n) = hN h := rfl
theorem hU_cpE (h : Hp) (a sp b dp n : Nat) : hU (cpE h a sp b dp n) = hU h := rfl
theorem hS_cpE (h : Hp) (a sp b dp n : Nat) : hS (cpE h a sp b dp n) = hS h := rfl
theorem hF_cpE (h : Hp) (a sp b dp n : Nat) : hF (cpE h a sp b dp n) = hF h := rfl
theorem hG_cpE (h : Hp) (a sp b dp n : Nat) : hG (cpE h a sp b dp n) = hG h := rfl
theorem hQ_cpE (h : Hp) (a sp b dp n : Nat) : hQ (cpE h a sp b dp n) = hQ h := rfl
theorem hF_sF (h : Hp) (k a : Nat) (v : Int32) (x y : Nat) : hF (sF h k a v) x y = if x = k ∧ y = a then v else hF h x y := rfl
theorem hG_sG (h : Hp) (k a : Nat) (v : Option Nat) (x y : Nat) : hG (sG h k a v) x y = if x = k ∧ y = a then v else hG h x y := rfl
theorem hE_sE (h : Hp) (k a : Nat) (v : Int32) (x y : Nat) : hE (sE h k a v) x y = if x = k ∧ y = a then v else hE h x y := rfl
theorem hQ_sQ (h : Hp) (k a : Nat) (v : Option Nat) (x y : Nat) : hQ (sQ h k a v) x y = if x = k ∧ y = a then v else hQ h x y := rfl
theorem hE_cpE (h : Hp) (a sp b dp n x i : Nat) : hE (cpE h a sp b dp n) x i = if x = b then va_cpy (hE h a) (hE h b) sp dp n i else hE h x i := rfl
theorem hN_nw (h : Hp) (c l s : Nat) : hN (nw h c l s) = hN h + 1 := rfl
theorem hU_nw (h : Hp) (c l s : Nat) : hU (nw h c l s) = hU h + s := rfl
theorem hS_nw (h : Hp) (c l s a : Nat) : hS (nw h c l s) a = if a = hN h then (c, l) else hS h a := rfl
theorem hF_nw (h : Hp) (c l s k a : Nat) : hF (nw h c l s) k a = if a = hN h then 0 else hF h k a := rfl
theorem hG_nw (h : Hp) (c l s k a : Nat) : hG (nw h c l s) k a = if a = hN h then none else hG h k a := rfl
theorem hE_nw (h : Hp) (c l s a i : Nat) : hE (nw h c l s) a i = if a = hN h then 0 else hE h a i := rfl
theorem hQ_nw (h : Hp) (c l s a i : Nat) : hQ (nw h c l s) a i = if a = hN h then none else hQ h a i := rfl
