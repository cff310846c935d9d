/-! TAKEWATER: the two sides agree on what is taken -/
/-- the values that the class writes down are the reference's -/
theorem bv_wV {h : Hp} {a z i j v : Nat} {e1 e2 e3 e4 : Nat → Int32} (hv : v < 4) (h1 : hF h 9 a = e1 i) (h2 : hF h 3 z = e2 (8 * i + j)) (h3 : hF h 6 z = e3 (8 * i + j)) (h4 : hF h 5 z = e4 (8 * i + j)) : hE (bvH h a z) 89 v = wV e1 e2 e3 e4 i j v := by
  rw [bvH_V]
  unfold wV
  obtain rfl | rfl | rfl | rfl : v = 0 ∨ v = 1 ∨ v = 2 ∨ v = 3 := by omega
  · simp [h1]
  · simp [h2]
  · simp [h3]
  · simp [h4]
theorem cmV_c {V W : Nat → Int32} (hv : ∀ v, v < 4 → V v = W v) (n : Nat) : cmV V n = cmV W n := by
  unfold cmV
  rw [hv (n / 2 % 4) (Nat.mod_lt _ (by decide))]
theorem evL_c {V W st : Nat → Int32} (hv : ∀ v, v < 4 → V v = W v) {a : Nat} : ∀ n, evL V st a n = evL W st a n := by
  intro n
  induction n with
  | zero => rfl
  | succ n ih =>
    rw [evL, evL, ih]
    unfold stB
    rw [cmV_c hv]
theorem lnB_c {V W st : Nat → Int32} (hv : ∀ v, v < 4 → V v = W v) {ends : Nat → Nat} : lnB V st ends = lnB W st ends := by
  funext l
  unfold lnB
  rw [evL_c hv]
theorem fhN_c {f g : Nat → Bool} : ∀ m i, (∀ j, i ≤ j → j < i + m → f j = g j) → fhN f i m = fhN g i m := by
  intro m
  induction m with
  | zero => intro i _; rfl
  | succ m ih =>
    intro i h
    rw [fhN, fhN, h i (by omega) (by omega), ih (i + 1) (fun j h1 h2 => h j (by omega) (by omega))]
/-- the free place, as each side finds it -/
theorem pl_c {nM : Nat} {pl epl est : Nat → Int32} (H : iP nM pl epl est) (h250 : nM ≤ 250) : fhN (fun p => decide (pl p = -1)) 0 60 = fhN (fun p => decide (smA est epl nM (Int32.ofNat p) = -1)) 0 60 :=
  fhN_c 60 0 (fun j _ h2 => by
    have := iP_free H h250 (p := j) (by omega)
    by_cases e : pl j = -1
    · rw [decide_eq_true e, decide_eq_true (this.mp e)]
    · rw [decide_eq_false e, decide_eq_false (fun w => e (this.mpr w))])
theorem imin_c (x y : Int32) : imin x y = if y < x then y else x := rfl
